/-! YearDeck$Readings.append(III)V -/
def D_X1_append (σ : St) (p1 : Int32) (p2 : Int32) (p3 : Int32) : Option St := if (8 : Int32) ≤ (σ 9 3) then some σ else gd (inb (σ 9 3) 8) (gd (inb ((up2 σ 10 (σ 9 3).toNatClampNeg p1) 9 3) 8) (gd (inb ((up2 (up2 σ 10 (σ 9 3).toNatClampNeg p1) 11 ((up2 σ 10 (σ 9 3).toNatClampNeg p1) 9 3).toNatClampNeg p2) 9 3) 8) (some (up2 (up2 (up2 (up2 σ 10 (σ 9 3).toNatClampNeg p1) 11 ((up2 σ 10 (σ 9 3).toNatClampNeg p1) 9 3).toNatClampNeg p2) 12 ((up2 (up2 σ 10 (σ 9 3).toNatClampNeg p1) 11 ((up2 σ 10 (σ 9 3).toNatClampNeg p1) 9 3).toNatClampNeg p2) 9 3).toNatClampNeg p3) 9 3 (((up2 (up2 (up2 σ 10 (σ 9 3).toNatClampNeg p1) 11 ((up2 σ 10 (σ 9 3).toNatClampNeg p1) 9 3).toNatClampNeg p2) 12 ((up2 (up2 σ 10 (σ 9 3).toNatClampNeg p1) 11 ((up2 σ 10 (σ 9 3).toNatClampNeg p1) 9 3).toNatClampNeg p2) 9 3).toNatClampNeg p3) 9 3) + (1 : Int32))))))
set_option maxRecDepth 100000 in
set_option maxHeartbeats 4000000 in
theorem c_X1_append (l : Launch) (g : Gh) (q : Nat → Nat) (sz : Nat) (σ : St) (p1 : Int32) (p2 : Int32) (p3 : Int32) {rr : St} (hD : D_X1_append σ p1 p2 p3 = some rr) : Met l yX1_append (wU yX1_append cX1_append 4 none) (rmD 0) (PQ g (eC g q) q 23 σ sz [.ref (q 9), .int p1, .int p2, .int p3]) (QV g (eC g q) q 23 rr sz) 0 0 (AQ q 23 sz) := by
  refine met_of (Qc := QV g (eC g q) q 23 rr) (by decide) (Nat.le_of_ble_eq_true rfl) ?_
  intro p e s m below meth c ls X I hl
  have hx := X.1
  have hb := X.2.1
  have hl : lv_has ls 4 [(0, .ref (q 9)), (1, .int p1), (2, .int p2), (3, .int p3)] := hl
  unfold D_X1_append at hD
  refine lv_aload_n hx hb dX1_append_0 rfl (lv_at hl 0 rfl) ?_
  refine g_Readings_count X I fl_X1_21 dX1_append_1 ?_
  refine lv_bipush (v := 8) hx hb dX1_append_4 (by decide) ?_
  refine lv_icmp_ge (tgt := 49) hx hb dX1_append_6 (by decide) (fun hc4 => ?_) (fun hc4 => ?_)
  · have hD := ite_p hc4 hD
    exact r_vret X I hD dX1_append_49
  · have hD := ite_n hc4 hD
    refine lv_aload_n hx hb dX1_append_9 rfl (lv_at hl 0 rfl) ?_
    refine g_Readings_who X I fl_X1_9 dX1_append_10 ?_
    refine lv_aload_n hx hb dX1_append_13 rfl (lv_at hl 0 rfl) ?_
    refine g_Readings_count X I fl_X1_21 dX1_append_14 ?_
    refine lv_iload_n hx hb dX1_append_17 rfl (lv_at hl 1 rfl) ?_
    obtain ⟨hg11, hD⟩ := gd_s hD
    refine r_iast (eC_loc g q) X I (by decide) (eCa_10 g q) hg11 dX1_append_18 (fun H locs I => ?_)
    refine lv_aload_n hx hb dX1_append_19 rfl (lv_at hl 0 rfl) ?_
    refine g_Readings_sets X I fl_X1_15 dX1_append_20 ?_
    refine lv_aload_n hx hb dX1_append_23 rfl (lv_at hl 0 rfl) ?_
    refine g_Readings_count X I fl_X1_21 dX1_append_24 ?_
    refine lv_iload_n hx hb dX1_append_27 rfl (lv_at hl 2 rfl) ?_
    obtain ⟨hg17, hD⟩ := gd_s hD
    refine r_iast (eC_loc g q) X I (by decide) (eCa_11 g q) hg17 dX1_append_28 (fun H locs I => ?_)
    refine lv_aload_n hx hb dX1_append_29 rfl (lv_at hl 0 rfl) ?_
    refine g_Readings_years X I fl_X1_18 dX1_append_30 ?_
    refine lv_aload_n hx hb dX1_append_33 rfl (lv_at hl 0 rfl) ?_
    refine g_Readings_count X I fl_X1_21 dX1_append_34 ?_
    refine lv_iload_n hx hb dX1_append_37 rfl (lv_at hl 3 rfl) ?_
    obtain ⟨hg23, hD⟩ := gd_s hD
    refine r_iast (eC_loc g q) X I (by decide) (eCa_12 g q) hg23 dX1_append_38 (fun H locs I => ?_)
    refine lv_aload_n hx hb dX1_append_39 rfl (lv_at hl 0 rfl) ?_
    refine lv_dup hx hb dX1_append_40 rfl ?_
    refine g_Readings_count X I fl_X1_21 dX1_append_41 ?_
    refine lv_iconst (v := 1) hx hb dX1_append_44 (by decide) ?_
    refine lv_iadd hx hb dX1_append_45 ?_
    refine p_Readings_count X I fl_X1_21 dX1_append_46 (fun H locs I => ?_)
    exact r_vret X I hD dX1_append_49

/-! YearDeck$Ride.yearsOff(LYearDeck$Rider;I)I -/
def D_X2_yearsOff_41 (σ : St) (rc8 : Int32 → Int32 → Option Int32) (v1 : Nat) (v2 : Int32) (v3 : Int32) (v4 : Int32) : Option Int32 := rc8 v3 (v4 + (1 : Int32))
set_option maxRecDepth 100000 in
set_option maxHeartbeats 4000000 in
theorem w_X2_yearsOff_41 {p : Program} {l : Launch} {e : Env} {s : State} {m : MethodId} {args : Array Value} {below : List Frame} {meth : Method} {c : Code} (g : Gh) (q : Nat → Nat) (X : MX p s m args meth c cX2_yearsOff 5 (some .int) RX2) {rr : Int32} (σ : St)  (v1 : Nat) (v2 : Int32) (v3 : Int32) (v4 : Int32) (kv1 : kRi v1) (rc8 : Int32 → Int32 → Option Int32) (hrc8 : ∀ (v3' : Int32) (v4' : Int32), rc8 v3' v4' = some rr → ∀ (H : Heap) (locs : List Loc) (ls : Array Slot), IC g q s σ H locs → lv_has ls 5 [(0, .ref (q 1)), (1, .ref (q v1)), (2, .int v2), (3, .int v3'), (4, .int v4')] → W p l e (rmD 1) s m args below meth c H locs 0 0 (MQ below (QI g (eC g q) q 23 rr σ s.heap.size) args s 0 0 (AQ q 23 s.heap.size)) (F0 m 8 ls [])) (hD : D_X2_yearsOff_41 σ rc8 v1 v2 v3 v4 = some rr) (H : Heap) (locs : List Loc) (ls : Array Slot) (I : IC g q s σ H locs) (hl : lv_has ls 5 [(0, .ref (q 1)), (1, .ref (q v1)), (2, .int v2), (3, .int v3), (4, .int v4)]) : W p l e (rmD 1) s m args below meth c H locs 0 0 (MQ below (QI g (eC g q) q 23 rr σ s.heap.size) args s 0 0 (AQ q 23 s.heap.size)) (F0 m 41 ls []) := by
  have hx := X.1
  have hb := X.2.1
  unfold D_X2_yearsOff_41 at hD
  refine lv_iinc (v := v4 + (1 : Int32)) (lv' := [(4, .int (v4 + (1 : Int32))), (0, .ref (q 1)), (1, .ref (q v1)), (2, .int v2), (3, .int v3)]) hx hb dX2_yearsOff_41 hl (k := 4) rfl rfl (by decide) rfl (fun ls hl => ?_)
  refine lv_goto (tgt := 8) hx hb dX2_yearsOff_44 (by decide) ?_
  exact hrc8 v3 (v4 + (1 : Int32)) hD _ _ _ I (lv_sub hl [1, 2, 3, 4, 0] rfl)
def D_X2_yearsOff_8b (σ : St) (rc8 : Int32 → Int32 → Option Int32) (v1 : Nat) (v2 : Int32) (v3 : Int32) (v4 : Int32) : Option Int32 := if (σ 1 4) ≤ v4 then some v3 else if ((v2 >>> (v4 &&& 31)) &&& (1 : Int32)) = (1 : Int32) then gd (inb v4 5) ((D_X4_yearsAbove σ v1 (σ 2 v4.toNatClampNeg)).bind fun y25 => D_X2_yearsOff_41 σ rc8 v1 v2 (v3 + y25) v4) else D_X2_yearsOff_41 σ rc8 v1 v2 v3 v4
set_option maxRecDepth 100000 in
set_option maxHeartbeats 4000000 in
theorem w_X2_yearsOff_8b {p : Program} {l : Launch} {e : Env} {s : State} {m : MethodId} {args : Array Value} {below : List Frame} {meth : Method} {c : Code} (g : Gh) (q : Nat → Nat) (X : MX p s m args meth c cX2_yearsOff 5 (some .int) RX2) {rr : Int32} (σ : St)  (v1 : Nat) (v2 : Int32) (v3 : Int32) (v4 : Int32) (kv1 : kRi v1) (rc8 : Int32 → Int32 → Option Int32) (hrc8 : ∀ (v3' : Int32) (v4' : Int32), rc8 v3' v4' = some rr → ∀ (H : Heap) (locs : List Loc) (ls : Array Slot), IC g q s σ H locs → lv_has ls 5 [(0, .ref (q 1)), (1, .ref (q v1)), (2, .int v2), (3, .int v3'), (4, .int v4')] → W p l e (rmD 1) s m args below meth c H locs 0 0 (MQ below (QI g (eC g q) q 23 rr σ s.heap.size) args s 0 0 (AQ q 23 s.heap.size)) (F0 m 8 ls [])) (hD : D_X2_yearsOff_8b σ rc8 v1 v2 v3 v4 = some rr) (H : Heap) (locs : List Loc) (ls : Array Slot) (I : IC g q s σ H locs) (hl : lv_has ls 5 [(0, .ref (q 1)), (1, .ref (q v1)), (2, .int v2), (3, .int v3), (4, .int v4)]) : W p l e (rmD 1) s m args below meth c H locs 0 0 (MQ below (QI g (eC g q) q 23 rr σ s.heap.size) args s 0 0 (AQ q 23 s.heap.size)) (F0 m 8 ls []) := by
  have hx := X.1
  have hb := X.2.1
  unfold D_X2_yearsOff_8b at hD
  refine lv_iload hx hb dX2_yearsOff_8 (lv_at hl 4 rfl) ?_
  refine lv_aload_n hx hb dX2_yearsOff_10 rfl (lv_at hl 0 rfl) ?_
  refine g_Ride_sections X I fl_X2_28 dX2_yearsOff_11 ?_
  refine lv_icmp_ge (tgt := 47) hx hb dX2_yearsOff_14 (by decide) (fun hc9 => ?_) (fun hc9 => ?_)
  · have hD := ite_p hc9 hD
    refine lv_iload_n hx hb dX2_yearsOff_47 rfl (lv_at hl 3 rfl) ?_
    exact r_iret X I hD dX2_yearsOff_48
  · have hD := ite_n hc9 hD
    refine lv_iload_n hx hb dX2_yearsOff_17 rfl (lv_at hl 2 rfl) ?_
    refine lv_iload hx hb dX2_yearsOff_18 (lv_at hl 4 rfl) ?_
    refine lv_ishr hx hb dX2_yearsOff_20 ?_
    refine lv_iconst (v := 1) hx hb dX2_yearsOff_21 (by decide) ?_
    refine lv_iand hx hb dX2_yearsOff_22 ?_
    refine lv_iconst (v := 1) hx hb dX2_yearsOff_23 (by decide) ?_
    refine lv_icmp_ne (tgt := 41) hx hb dX2_yearsOff_24 (by decide) (fun hc18 => ?_) (fun hc18 => ?_)
    · have hD := ite_n hc18 hD
      exact w_X2_yearsOff_41 g q X σ v1 v2 v3 v4 kv1 rc8 hrc8 hD _ _ _ I (lv_sub hl [0, 1, 2, 3, 4] rfl)
    · have hD := ite_p hc18 hD
      refine lv_iload_n hx hb dX2_yearsOff_27 rfl (lv_at hl 3 rfl) ?_
      refine lv_aload_n hx hb dX2_yearsOff_28 rfl (lv_at hl 1 rfl) ?_
      refine lv_aload_n hx hb dX2_yearsOff_29 rfl (lv_at hl 0 rfl) ?_
      refine g_Ride_steep X I fl_X2_9 dX2_yearsOff_30 ?_
      refine lv_iload hx hb dX2_yearsOff_33 (lv_at hl 4 rfl) ?_
      obtain ⟨hg24, hD⟩ := gd_s hD
      refine r_iald X I (by decide) ((eCa_2 g q) _) hg24 dX2_yearsOff_35 ?_
      obtain ⟨y25, hy25, hD⟩ := bd_s hD
      refine r_calli (r_runV (As := [.int (σ 2 v4.toNatClampNeg)]) (rest := [.int v3]) X I (c_X4_yearsAbove l g q _ σ v1 (σ 2 v4.toNatClampNeg) kv1 hy25) kv_X4_yearsAbove ml_X2_63 rfl (kRi_lt kv1) (eC_Rider g q _ kv1) ⟨Nat.le_of_ble_eq_true rfl, Nat.le_of_ble_eq_true rfl⟩ ⟨Nat.zero_le _, Nat.zero_le _⟩ rfl rfl hl.1 (Nat.le_of_ble_eq_true rfl) dX2_yearsOff_36) I (fun H locs I => ?_)
      refine lv_iadd hx hb dX2_yearsOff_39 ?_
      refine lv_istore_n (lv' := [(3, .int (v3 + y25)), (0, .ref (q 1)), (1, .ref (q v1)), (2, .int v2), (4, .int v4)]) hx hb dX2_yearsOff_40 rfl hl (by decide) rfl (fun ls hl => ?_)
      exact w_X2_yearsOff_41 g q X σ v1 v2 (v3 + y25) v4 kv1 rc8 hrc8 hD _ _ _ I (lv_sub hl [1, 2, 3, 0, 4] rfl)
def D_X2_yearsOff_8 (σ : St) (v1 : Nat) (v2 : Int32) : Nat → Int32 → Int32 → Option Int32
  | 0 => fun _ _ => none
  | n + 1 => fun v3 v4 => D_X2_yearsOff_8b σ (D_X2_yearsOff_8 σ v1 v2 n) v1 v2 v3 v4
set_option maxRecDepth 100000 in
set_option maxHeartbeats 4000000 in
theorem w_X2_yearsOff_8 {p : Program} {l : Launch} {e : Env} {s : State} {m : MethodId} {args : Array Value} {below : List Frame} {meth : Method} {c : Code} (g : Gh) (q : Nat → Nat) (X : MX p s m args meth c cX2_yearsOff 5 (some .int) RX2) {rr : Int32} (σ : St)  (v1 : Nat) (v2 : Int32) (kv1 : kRi v1) : ∀ (n : Nat) (v3 : Int32) (v4 : Int32), D_X2_yearsOff_8 σ v1 v2 n v3 v4 = some rr → ∀ (H : Heap) (locs : List Loc) (ls : Array Slot), IC g q s σ H locs → lv_has ls 5 [(0, .ref (q 1)), (1, .ref (q v1)), (2, .int v2), (3, .int v3), (4, .int v4)] → W p l e (rmD 1) s m args below meth c H locs 0 0 (MQ below (QI g (eC g q) q 23 rr σ s.heap.size) args s 0 0 (AQ q 23 s.heap.size)) (F0 m 8 ls []) := by
  intro n
  induction n with
  | zero =>
    intro v3 v4 hD H locs ls I hl
    cases hD
  | succ n ih =>
    intro v3 v4 hD H locs ls I hl
    exact w_X2_yearsOff_8b g q X σ v1 v2 v3 v4 kv1 _ ih hD H locs ls I hl
def D_X2_yearsOff (σ : St) (p1 : Nat) (p2 : Int32) : Option Int32 := D_X2_yearsOff_8 σ p1 p2 FU (σ p1 3) (0 : Int32)
set_option maxRecDepth 100000 in
set_option maxHeartbeats 4000000 in
theorem c_X2_yearsOff (l : Launch) (g : Gh) (q : Nat → Nat) (sz : Nat) (σ : St) (p1 : Nat) (p2 : Int32) (kp1 : kRi p1) {rr : Int32} (hD : D_X2_yearsOff σ p1 p2 = some rr) : Met l yX2_yearsOff (wU yX2_yearsOff cX2_yearsOff 5 (some .int)) (rmD 1) (PQ g (eC g q) q 23 σ sz [.ref (q 1), .ref (q p1), .int p2]) (QI g (eC g q) q 23 rr σ sz) 0 0 (AQ q 23 sz) := by
  refine met_of (Qc := QI g (eC g q) q 23 rr σ) (by decide) (Nat.le_of_ble_eq_true rfl) ?_
  intro p e s m below meth c ls X I hl
  have hx := X.1
  have hb := X.2.1
  have hl : lv_has ls 5 [(0, .ref (q 1)), (1, .ref (q p1)), (2, .int p2)] := hl
  unfold D_X2_yearsOff at hD
  refine lv_aload_n hx hb dX2_yearsOff_0 rfl (lv_at hl 1 rfl) ?_
  refine g_Rider_years X I kp1 fl_X2_60 dX2_yearsOff_1 ?_
  refine lv_istore_n (lv' := [(3, .int (σ p1 3)), (0, .ref (q 1)), (1, .ref (q p1)), (2, .int p2)]) hx hb dX2_yearsOff_4 rfl hl (by decide) rfl (fun ls hl => ?_)
  refine lv_iconst (v := 0) hx hb dX2_yearsOff_5 (by decide) ?_
  refine lv_istore (lv' := [(4, .int (0 : Int32)), (3, .int (σ p1 3)), (0, .ref (q 1)), (1, .ref (q p1)), (2, .int p2)]) hx hb dX2_yearsOff_6 hl (by decide) rfl (fun ls hl => ?_)
  exact w_X2_yearsOff_8 g q X σ p1 p2 kp1 FU (σ p1 3) (0 : Int32) hD _ _ _ I (lv_sub hl [2, 3, 4, 1, 0] rfl)

/-! YearDeck$Readings.allHold(LYearDeck$Ride;)Z -/
def D_X1_allHold_2b (σ : St) (rc2 : Int32 → Option Int32) (v2 : Int32) : Option Int32 := if (σ 9 3) ≤ v2 then some (1 : Int32) else gd (inb v2 8) (gd (inb (σ 10 v2.toNatClampNeg) 4) (gd (inb v2 8) ((D_X2_yearsOff σ (5 + (σ 10 v2.toNatClampNeg).toNatClampNeg) (σ 11 v2.toNatClampNeg)).bind fun y21 => gd (inb v2 8) (if y21 = (σ 12 v2.toNatClampNeg) then rc2 (v2 + (1 : Int32)) else some (0 : Int32)))))
set_option maxRecDepth 100000 in
set_option maxHeartbeats 4000000 in
theorem w_X1_allHold_2b {p : Program} {l : Launch} {e : Env} {s : State} {m : MethodId} {args : Array Value} {below : List Frame} {meth : Method} {c : Code} (g : Gh) (q : Nat → Nat) (X : MX p s m args meth c cX1_allHold 3 (some .boolean) RX1) {rr : Int32} (σ : St)  (v2 : Int32) (rc2 : Int32 → Option Int32) (hrc2 : ∀ (v2' : Int32), rc2 v2' = some rr → ∀ (H : Heap) (locs : List Loc) (ls : Array Slot), IC g q s σ H locs → lv_has ls 3 [(0, .ref (q 9)), (1, .ref (q 1)), (2, .int v2')] → W p l e (rmD 2) s m args below meth c H locs 0 0 (MQ below (QI g (eC g q) q 23 rr σ s.heap.size) args s 0 0 (AQ q 23 s.heap.size)) (F0 m 2 ls [])) (hD : D_X1_allHold_2b σ rc2 v2 = some rr) (H : Heap) (locs : List Loc) (ls : Array Slot) (I : IC g q s σ H locs) (hl : lv_has ls 3 [(0, .ref (q 9)), (1, .ref (q 1)), (2, .int v2)]) : W p l e (rmD 2) s m args below meth c H locs 0 0 (MQ below (QI g (eC g q) q 23 rr σ s.heap.size) args s 0 0 (AQ q 23 s.heap.size)) (F0 m 2 ls []) := by
  have hx := X.1
  have hb := X.2.1
  unfold D_X1_allHold_2b at hD
  refine lv_iload_n hx hb dX1_allHold_2 rfl (lv_at hl 2 rfl) ?_
  refine lv_aload_n hx hb dX1_allHold_3 rfl (lv_at hl 0 rfl) ?_
  refine g_Readings_count X I fl_X1_21 dX1_allHold_4 ?_
  refine lv_icmp_ge (tgt := 48) hx hb dX1_allHold_7 (by decide) (fun hc6 => ?_) (fun hc6 => ?_)
  · have hD := ite_p hc6 hD
    refine lv_iconst (v := 1) hx hb dX1_allHold_48 (by decide) ?_
    exact r_zret X I hD rfl dX1_allHold_49
  · have hD := ite_n hc6 hD
    refine lv_aload_n hx hb dX1_allHold_10 rfl (lv_at hl 1 rfl) ?_
    refine lv_aload_n hx hb dX1_allHold_11 rfl (lv_at hl 1 rfl) ?_
    refine g_Ride_riders X I fl_X1_25 dX1_allHold_12 ?_
    refine lv_aload_n hx hb dX1_allHold_15 rfl (lv_at hl 0 rfl) ?_
    refine g_Readings_who X I fl_X1_9 dX1_allHold_16 ?_
    refine lv_iload_n hx hb dX1_allHold_19 rfl (lv_at hl 2 rfl) ?_
    obtain ⟨hg15, hD⟩ := gd_s hD
    refine r_iald X I (by decide) ((eCa_10 g q) _) hg15 dX1_allHold_20 ?_
    obtain ⟨hg16, hD⟩ := gd_s hD
    refine r_aald (t0 := 2) X I (by decide) rfl (eCr_3 g q _) hg16 dX1_allHold_21 ?_
    refine lv_aload_n hx hb dX1_allHold_22 rfl (lv_at hl 0 rfl) ?_
    refine g_Readings_sets X I fl_X1_15 dX1_allHold_23 ?_
    refine lv_iload_n hx hb dX1_allHold_26 rfl (lv_at hl 2 rfl) ?_
    obtain ⟨hg20, hD⟩ := gd_s hD
    refine r_iald X I (by decide) ((eCa_11 g q) _) hg20 dX1_allHold_27 ?_
    obtain ⟨y21, hy21, hD⟩ := bd_s hD
    refine r_calli (r_runV (As := [.ref (q (5 + (σ 10 v2.toNatClampNeg).toNatClampNeg)), .int (σ 11 v2.toNatClampNeg)]) (rest := []) X I (c_X2_yearsOff l g q _ σ (5 + (σ 10 v2.toNatClampNeg).toNatClampNeg) (σ 11 v2.toNatClampNeg) (kRi_of hg16) hy21) kv_X2_yearsOff ml_X1_31 rfl (by decide) (eC_Ride g q _) ⟨Nat.le_of_ble_eq_true rfl, Nat.le_of_ble_eq_true rfl⟩ ⟨Nat.zero_le _, Nat.zero_le _⟩ rfl rfl hl.1 (Nat.le_of_ble_eq_true rfl) dX1_allHold_28) I (fun H locs I => ?_)
    refine lv_aload_n hx hb dX1_allHold_31 rfl (lv_at hl 0 rfl) ?_
    refine g_Readings_years X I fl_X1_18 dX1_allHold_32 ?_
    refine lv_iload_n hx hb dX1_allHold_35 rfl (lv_at hl 2 rfl) ?_
    obtain ⟨hg25, hD⟩ := gd_s hD
    refine r_iald X I (by decide) ((eCa_12 g q) _) hg25 dX1_allHold_36 ?_
    refine lv_icmp_eq (tgt := 42) hx hb dX1_allHold_37 (by decide) (fun hc26 => ?_) (fun hc26 => ?_)
    · have hD := ite_p hc26 hD
      refine lv_iinc (v := v2 + (1 : Int32)) (lv' := [(2, .int (v2 + (1 : Int32))), (0, .ref (q 9)), (1, .ref (q 1))]) hx hb dX1_allHold_42 hl (k := 2) rfl rfl (by decide) rfl (fun ls hl => ?_)
      refine lv_goto (tgt := 2) hx hb dX1_allHold_45 (by decide) ?_
      exact hrc2 (v2 + (1 : Int32)) hD _ _ _ I (lv_sub hl [1, 2, 0] rfl)
    · have hD := ite_n hc26 hD
      refine lv_iconst (v := 0) hx hb dX1_allHold_40 (by decide) ?_
      exact r_zret X I hD rfl dX1_allHold_41
def D_X1_allHold_2 (σ : St) : Nat → Int32 → Option Int32
  | 0 => fun _ => none
  | n + 1 => fun v2 => D_X1_allHold_2b σ (D_X1_allHold_2 σ n) v2
set_option maxRecDepth 100000 in
set_option maxHeartbeats 4000000 in
theorem w_X1_allHold_2 {p : Program} {l : Launch} {e : Env} {s : State} {m : MethodId} {args : Array Value} {below : List Frame} {meth : Method} {c : Code} (g : Gh) (q : Nat → Nat) (X : MX p s m args meth c cX1_allHold 3 (some .boolean) RX1) {rr : Int32} (σ : St)  : ∀ (n : Nat) (v2 : Int32), D_X1_allHold_2 σ n v2 = some rr → ∀ (H : Heap) (locs : List Loc) (ls : Array Slot), IC g q s σ H locs → lv_has ls 3 [(0, .ref (q 9)), (1, .ref (q 1)), (2, .int v2)] → W p l e (rmD 2) s m args below meth c H locs 0 0 (MQ below (QI g (eC g q) q 23 rr σ s.heap.size) args s 0 0 (AQ q 23 s.heap.size)) (F0 m 2 ls []) := by
  intro n
  induction n with
  | zero =>
    intro v2 hD H locs ls I hl
    cases hD
  | succ n ih =>
    intro v2 hD H locs ls I hl
    exact w_X1_allHold_2b g q X σ v2 _ ih hD H locs ls I hl
def D_X1_allHold (σ : St) : Option Int32 := D_X1_allHold_2 σ FU (0 : Int32)
set_option maxRecDepth 100000 in
set_option maxHeartbeats 4000000 in
theorem c_X1_allHold (l : Launch) (g : Gh) (q : Nat → Nat) (sz : Nat) (σ : St) {rr : Int32} (hD : D_X1_allHold σ = some rr) : Met l yX1_allHold (wU yX1_allHold cX1_allHold 3 (some .boolean)) (rmD 2) (PQ g (eC g q) q 23 σ sz [.ref (q 9), .ref (q 1)]) (QI g (eC g q) q 23 rr σ sz) 0 0 (AQ q 23 sz) := by
  refine met_of (Qc := QI g (eC g q) q 23 rr σ) (by decide) (Nat.le_of_ble_eq_true rfl) ?_
  intro p e s m below meth c ls X I hl
  have hx := X.1
  have hb := X.2.1
  have hl : lv_has ls 3 [(0, .ref (q 9)), (1, .ref (q 1))] := hl
  unfold D_X1_allHold at hD
  refine lv_iconst (v := 0) hx hb dX1_allHold_0 (by decide) ?_
  refine lv_istore_n (lv' := [(2, .int (0 : Int32)), (0, .ref (q 9)), (1, .ref (q 1))]) hx hb dX1_allHold_1 rfl hl (by decide) rfl (fun ls hl => ?_)
  exact w_X1_allHold_2 g q X σ FU (0 : Int32) hD _ _ _ I (lv_sub hl [1, 2, 0] rfl)

/-! YearDeck$Ride.isTold()Z -/
def D_X2_isTold (σ : St) : Option Int32 := if (σ 1 5) ≤ 0 then some (0 : Int32) else some (1 : Int32)
set_option maxRecDepth 100000 in
set_option maxHeartbeats 4000000 in
theorem c_X2_isTold (l : Launch) (g : Gh) (q : Nat → Nat) (sz : Nat) (σ : St) {rr : Int32} (hD : D_X2_isTold σ = some rr) : Met l yX2_isTold (wU yX2_isTold cX2_isTold 1 (some .boolean)) (rmD 0) (PQ g (eC g q) q 23 σ sz [.ref (q 1)]) (QI g (eC g q) q 23 rr σ sz) 0 0 (AQ q 23 sz) := by
  refine met_of (Qc := QI g (eC g q) q 23 rr σ) (by decide) (Nat.le_of_ble_eq_true rfl) ?_
  intro p e s m below meth c ls X I hl
  have hx := X.1
  have hb := X.2.1
  have hl : lv_has ls 1 [(0, .ref (q 1))] := hl
  unfold D_X2_isTold at hD
  refine lv_aload_n hx hb dX2_isTold_0 rfl (lv_at hl 0 rfl) ?_
  refine g_Ride_count X I fl_X2_31 dX2_isTold_1 ?_
  refine lv_if_le (tgt := 11) hx hb dX2_isTold_4 (by decide) (fun hc3 => ?_) (fun hc3 => ?_)
  · have hD := ite_p hc3 hD
    refine lv_iconst (v := 0) hx hb dX2_isTold_11 (by decide) ?_
    exact r_zret X I hD rfl dX2_isTold_12
  · have hD := ite_n hc3 hD
    refine lv_iconst (v := 1) hx hb dX2_isTold_7 (by decide) ?_
    refine lv_goto (tgt := 12) hx hb dX2_isTold_8 (by decide) ?_
    exact r_zret X I hD rfl dX2_isTold_12

/-! YearDeck$Ride.hasRider(I)Z -/
def D_X2_hasRider (σ : St) (p1 : Int32) : Option Int32 := if p1 < 0 then some (0 : Int32) else if (σ 1 5) ≤ p1 then some (0 : Int32) else some (1 : Int32)
set_option maxRecDepth 100000 in
set_option maxHeartbeats 4000000 in
theorem c_X2_hasRider (l : Launch) (g : Gh) (q : Nat → Nat) (sz : Nat) (σ : St) (p1 : Int32) {rr : Int32} (hD : D_X2_hasRider σ p1 = some rr) : Met l yX2_hasRider (wU yX2_hasRider cX2_hasRider 2 (some .boolean)) (rmD 0) (PQ g (eC g q) q 23 σ sz [.ref (q 1), .int p1]) (QI g (eC g q) q 23 rr σ sz) 0 0 (AQ q 23 sz) := by
  refine met_of (Qc := QI g (eC g q) q 23 rr σ) (by decide) (Nat.le_of_ble_eq_true rfl) ?_
  intro p e s m below meth c ls X I hl
  have hx := X.1
  have hb := X.2.1
  have hl : lv_has ls 2 [(0, .ref (q 1)), (1, .int p1)] := hl
  unfold D_X2_hasRider at hD
  refine lv_iload_n hx hb dX2_hasRider_0 rfl (lv_at hl 1 rfl) ?_
  refine lv_if_lt (tgt := 16) hx hb dX2_hasRider_1 (by decide) (fun hc2 => ?_) (fun hc2 => ?_)
  · have hD := ite_p hc2 hD
    refine lv_iconst (v := 0) hx hb dX2_hasRider_16 (by decide) ?_
    exact r_zret X I hD rfl dX2_hasRider_17
  · have hD := ite_n hc2 hD
    refine lv_iload_n hx hb dX2_hasRider_4 rfl (lv_at hl 1 rfl) ?_
    refine lv_aload_n hx hb dX2_hasRider_5 rfl (lv_at hl 0 rfl) ?_
    refine g_Ride_count X I fl_X2_31 dX2_hasRider_6 ?_
    refine lv_icmp_ge (tgt := 16) hx hb dX2_hasRider_9 (by decide) (fun hc8 => ?_) (fun hc8 => ?_)
    · have hD := ite_p hc8 hD
      refine lv_iconst (v := 0) hx hb dX2_hasRider_16 (by decide) ?_
      exact r_zret X I hD rfl dX2_hasRider_17
    · have hD := ite_n hc8 hD
      refine lv_iconst (v := 1) hx hb dX2_hasRider_12 (by decide) ?_
      refine lv_goto (tgt := 17) hx hb dX2_hasRider_13 (by decide) ?_
      exact r_zret X I hD rfl dX2_hasRider_17

/-! YearDeck$Ride.hasSection(I)Z -/
def D_X2_hasSection (σ : St) (p1 : Int32) : Option Int32 := if p1 < 0 then some (0 : Int32) else if (σ 1 4) ≤ p1 then some (0 : Int32) else some (1 : Int32)
set_option maxRecDepth 100000 in
set_option maxHeartbeats 4000000 in
theorem c_X2_hasSection (l : Launch) (g : Gh) (q : Nat → Nat) (sz : Nat) (σ : St) (p1 : Int32) {rr : Int32} (hD : D_X2_hasSection σ p1 = some rr) : Met l yX2_hasSection (wU yX2_hasSection cX2_hasSection 2 (some .boolean)) (rmD 0) (PQ g (eC g q) q 23 σ sz [.ref (q 1), .int p1]) (QI g (eC g q) q 23 rr σ sz) 0 0 (AQ q 23 sz) := by
  refine met_of (Qc := QI g (eC g q) q 23 rr σ) (by decide) (Nat.le_of_ble_eq_true rfl) ?_
  intro p e s m below meth c ls X I hl
  have hx := X.1
  have hb := X.2.1
  have hl : lv_has ls 2 [(0, .ref (q 1)), (1, .int p1)] := hl
  unfold D_X2_hasSection at hD
  refine lv_iload_n hx hb dX2_hasSection_0 rfl (lv_at hl 1 rfl) ?_
  refine lv_if_lt (tgt := 16) hx hb dX2_hasSection_1 (by decide) (fun hc2 => ?_) (fun hc2 => ?_)
  · have hD := ite_p hc2 hD
    refine lv_iconst (v := 0) hx hb dX2_hasSection_16 (by decide) ?_
    exact r_zret X I hD rfl dX2_hasSection_17
  · have hD := ite_n hc2 hD
    refine lv_iload_n hx hb dX2_hasSection_4 rfl (lv_at hl 1 rfl) ?_
    refine lv_aload_n hx hb dX2_hasSection_5 rfl (lv_at hl 0 rfl) ?_
    refine g_Ride_sections X I fl_X2_28 dX2_hasSection_6 ?_
    refine lv_icmp_ge (tgt := 16) hx hb dX2_hasSection_9 (by decide) (fun hc8 => ?_) (fun hc8 => ?_)
    · have hD := ite_p hc8 hD
      refine lv_iconst (v := 0) hx hb dX2_hasSection_16 (by decide) ?_
      exact r_zret X I hD rfl dX2_hasSection_17
    · have hD := ite_n hc8 hD
      refine lv_iconst (v := 1) hx hb dX2_hasSection_12 (by decide) ?_
      refine lv_goto (tgt := 17) hx hb dX2_hasSection_13 (by decide) ?_
      exact r_zret X I hD rfl dX2_hasSection_17

/-! YearDeck$Ride.board(LYearDeck$Sheet;II)V -/
def D_X2_board_88b (σ : St) (rc88 : St → Int32 → Option St) (v1 : Nat) (v2 : Int32) (v4 : Int32) (v5 : Int32) : Option St := if (σ 1 5) ≤ v5 then some σ else gd (inb v5 4) ((D_X4_board σ (5 + v5.toNatClampNeg) v1 ((v2 + v4) + ((8 : Int32) * v5))).bind fun y68 => rc88 y68 (v5 + (1 : Int32)))
set_option maxRecDepth 100000 in
set_option maxHeartbeats 4000000 in
theorem w_X2_board_88b {p : Program} {l : Launch} {e : Env} {s : State} {m : MethodId} {args : Array Value} {below : List Frame} {meth : Method} {c : Code} (g : Gh) (q : Nat → Nat) (X : MX p s m args meth c cX2_board 6 none RX2) {rr : St} (σ : St)  (v1 : Nat) (v2 : Int32) (v4 : Int32) (v5 : Int32) (kv1 : kSh v1) (rc88 : St → Int32 → Option St) (hrc88 : ∀ (σ' : St) (v5' : Int32), rc88 σ' v5' = some rr → ∀ (H : Heap) (locs : List Loc) (ls : Array Slot), IC g q s σ' H locs → lv_has ls 6 [(0, .ref (q 1)), (1, .ref (q v1)), (2, .int v2), (4, .int v4), (5, .int v5')] → W p l e (rmD 4) s m args below meth c H locs 0 0 (MQ below (QV g (eC g q) q 23 rr s.heap.size) args s 0 0 (AQ q 23 s.heap.size)) (F0 m 88 ls [])) (hD : D_X2_board_88b σ rc88 v1 v2 v4 v5 = some rr) (H : Heap) (locs : List Loc) (ls : Array Slot) (I : IC g q s σ H locs) (hl : lv_has ls 6 [(0, .ref (q 1)), (1, .ref (q v1)), (2, .int v2), (4, .int v4), (5, .int v5)]) : W p l e (rmD 4) s m args below meth c H locs 0 0 (MQ below (QV g (eC g q) q 23 rr s.heap.size) args s 0 0 (AQ q 23 s.heap.size)) (F0 m 88 ls []) := by
  have hx := X.1
  have hb := X.2.1
  unfold D_X2_board_88b at hD
  refine lv_iload hx hb dX2_board_88 (lv_at hl 4 rfl) ?_
  refine lv_aload_n hx hb dX2_board_90 rfl (lv_at hl 0 rfl) ?_
  refine g_Ride_count X I fl_X2_31 dX2_board_91 ?_
  refine lv_icmp_ge (tgt := 124) hx hb dX2_board_94 (by decide) (fun hc54 => ?_) (fun hc54 => ?_)
  · have hD := ite_p hc54 hD
    exact r_vret X I hD dX2_board_124
  · have hD := ite_n hc54 hD
    refine lv_aload_n hx hb dX2_board_97 rfl (lv_at hl 0 rfl) ?_
    refine g_Ride_riders X I fl_X2_17 dX2_board_98 ?_
    refine lv_iload hx hb dX2_board_101 (lv_at hl 4 rfl) ?_
    obtain ⟨hg59, hD⟩ := gd_s hD
    refine r_aald (t0 := 2) X I (by decide) rfl (eCr_3 g q _) hg59 dX2_board_103 ?_
    refine lv_aload_n hx hb dX2_board_104 rfl (lv_at hl 1 rfl) ?_
    refine lv_iload_n hx hb dX2_board_105 rfl (lv_at hl 2 rfl) ?_
    refine lv_iload hx hb dX2_board_106 (lv_at hl 3 rfl) ?_
    refine lv_iadd hx hb dX2_board_108 ?_
    refine lv_bipush (v := 8) hx hb dX2_board_109 (by decide) ?_
    refine lv_iload hx hb dX2_board_111 (lv_at hl 4 rfl) ?_
    refine lv_imul hx hb dX2_board_113 ?_
    refine lv_iadd hx hb dX2_board_114 ?_
    obtain ⟨y68, hy68, hD⟩ := bd_s hD
    refine r_callv (r_runV (As := [.ref (q v1), .int ((v2 + v4) + ((8 : Int32) * v5))]) (rest := []) X I (c_X4_board l g q _ σ (5 + v5.toNatClampNeg) v1 ((v2 + v4) + ((8 : Int32) * v5)) (kRi_of hg59) kv1 hy68) kv_X4_board ml_X2_56 rfl (kRi_lt (kRi_of hg59)) (eC_Rider g q _ (kRi_of hg59)) ⟨Nat.le_of_ble_eq_true rfl, Nat.le_of_ble_eq_true rfl⟩ ⟨Nat.zero_le _, Nat.zero_le _⟩ rfl rfl hl.1 (Nat.le_of_ble_eq_true rfl) dX2_board_115) I (fun H locs I => ?_)
    refine lv_iinc (v := v5 + (1 : Int32)) (lv' := [(5, .int (v5 + (1 : Int32))), (0, .ref (q 1)), (1, .ref (q v1)), (2, .int v2), (4, .int v4)]) hx hb dX2_board_118 hl (k := 4) rfl rfl (by decide) rfl (fun ls hl => ?_)
    refine lv_goto (tgt := 88) hx hb dX2_board_121 (by decide) ?_
    exact hrc88 y68 (v5 + (1 : Int32)) hD _ _ _ I (lv_sub hl [1, 2, 3, 4, 0] rfl)
def D_X2_board_88  (v1 : Nat) (v2 : Int32) (v4 : Int32) : Nat → St → Int32 → Option St
  | 0 => fun _ _ => none
  | n + 1 => fun σ v5 => D_X2_board_88b σ (D_X2_board_88 v1 v2 v4 n) v1 v2 v4 v5
set_option maxRecDepth 100000 in
set_option maxHeartbeats 4000000 in
theorem w_X2_board_88 {p : Program} {l : Launch} {e : Env} {s : State} {m : MethodId} {args : Array Value} {below : List Frame} {meth : Method} {c : Code} (g : Gh) (q : Nat → Nat) (X : MX p s m args meth c cX2_board 6 none RX2) {rr : St}  (v1 : Nat) (v2 : Int32) (v4 : Int32) (kv1 : kSh v1) : ∀ (n : Nat) (σ : St) (v5 : Int32), D_X2_board_88 v1 v2 v4 n σ v5 = some rr → ∀ (H : Heap) (locs : List Loc) (ls : Array Slot), IC g q s σ H locs → lv_has ls 6 [(0, .ref (q 1)), (1, .ref (q v1)), (2, .int v2), (4, .int v4), (5, .int v5)] → W p l e (rmD 4) s m args below meth c H locs 0 0 (MQ below (QV g (eC g q) q 23 rr s.heap.size) args s 0 0 (AQ q 23 s.heap.size)) (F0 m 88 ls []) := by
  intro n
  induction n with
  | zero =>
    intro σ v5 hD H locs ls I hl
    cases hD
  | succ n ih =>
    intro σ v5 hD H locs ls I hl
    exact w_X2_board_88b g q X σ v1 v2 v4 v5 kv1 _ ih hD H locs ls I hl
def D_X2_board_62 (σ : St) (v1 : Nat) (v2 : Int32) (v3 : Int32) : Option St := D_X2_board_88 v1 v2 ((3 : Int32) + (σ 1 4)) FU (up2 σ 1 5 (if ((v3 - ((3 : Int32) + (σ 1 4))) / (8 : Int32)) < (4 : Int32) then ((v3 - ((3 : Int32) + (σ 1 4))) / (8 : Int32)) else (4 : Int32))) (0 : Int32)
set_option maxRecDepth 100000 in
set_option maxHeartbeats 4000000 in
theorem w_X2_board_62 {p : Program} {l : Launch} {e : Env} {s : State} {m : MethodId} {args : Array Value} {below : List Frame} {meth : Method} {c : Code} (g : Gh) (q : Nat → Nat) (X : MX p s m args meth c cX2_board 6 none RX2) {rr : St} (σ : St)  (v1 : Nat) (v2 : Int32) (v3 : Int32) (kv1 : kSh v1) (hD : D_X2_board_62 σ v1 v2 v3 = some rr) (H : Heap) (locs : List Loc) (ls : Array Slot) (I : IC g q s σ H locs) (hl : lv_has ls 6 [(0, .ref (q 1)), (1, .ref (q v1)), (2, .int v2), (3, .int v3)]) : W p l e (rmD 4) s m args below meth c H locs 0 0 (MQ below (QV g (eC g q) q 23 rr s.heap.size) args s 0 0 (AQ q 23 s.heap.size)) (F0 m 62 ls []) := by
  have hx := X.1
  have hb := X.2.1
  unfold D_X2_board_62 at hD
  refine lv_iconst (v := 3) hx hb dX2_board_62 (by decide) ?_
  refine lv_aload_n hx hb dX2_board_63 rfl (lv_at hl 0 rfl) ?_
  refine g_Ride_sections X I fl_X2_28 dX2_board_64 ?_
  refine lv_iadd hx hb dX2_board_67 ?_
  refine lv_istore (lv' := [(4, .int ((3 : Int32) + (σ 1 4))), (0, .ref (q 1)), (1, .ref (q v1)), (2, .int v2), (3, .int v3)]) hx hb dX2_board_68 hl (by decide) rfl (fun ls hl => ?_)
  refine lv_aload_n hx hb dX2_board_70 rfl (lv_at hl 1 rfl) ?_
  refine lv_iconst (v := 4) hx hb dX2_board_71 (by decide) ?_
  refine lv_iload_n hx hb dX2_board_72 rfl (lv_at hl 4 rfl) ?_
  refine lv_iload hx hb dX2_board_73 (lv_at hl 0 rfl) ?_
  refine lv_isub hx hb dX2_board_75 ?_
  refine lv_bipush (v := 8) hx hb dX2_board_76 (by decide) ?_
  refine lv_idiv hx hb dX2_board_78 (by decide) ?_
  refine r_min X (Nat.le_of_ble_eq_true rfl) (Nat.le_of_ble_eq_true rfl) ⟨Nat.zero_le _, Nat.zero_le _⟩ hl.1 dX2_board_79 ?_
  refine p_Ride_count X I fl_X2_31 dX2_board_82 (fun H locs I => ?_)
  refine lv_iconst (v := 0) hx hb dX2_board_85 (by decide) ?_
  refine lv_istore (lv' := [(5, .int (0 : Int32)), (4, .int ((3 : Int32) + (σ 1 4))), (0, .ref (q 1)), (1, .ref (q v1)), (2, .int v2), (3, .int v3)]) hx hb dX2_board_86 hl (by decide) rfl (fun ls hl => ?_)
  exact w_X2_board_88 g q X v1 v2 ((3 : Int32) + (σ 1 4)) kv1 FU (up2 σ 1 5 (if ((v3 - ((3 : Int32) + (σ 1 4))) / (8 : Int32)) < (4 : Int32) then ((v3 - ((3 : Int32) + (σ 1 4))) / (8 : Int32)) else (4 : Int32))) (0 : Int32) hD _ _ _ I (lv_sub hl [2, 3, 4, 1, 0] rfl)
def D_X2_board_27b (σ : St) (rc27 : St → Int32 → Option St) (v1 : Nat) (v2 : Int32) (v3 : Int32) (v4 : Int32) : Option St := if (σ 1 4) ≤ v4 then D_X2_board_62 σ v1 v2 v3 else (D_X5_at σ v1 ((v2 + (3 : Int32)) + v4)).bind fun y30 => (D_X3_digit σ y30).bind fun y31 => gd (inb v4 5) (rc27 (up2 σ 2 v4.toNatClampNeg y31) (v4 + (1 : Int32)))
set_option maxRecDepth 100000 in
set_option maxHeartbeats 4000000 in
theorem w_X2_board_27b {p : Program} {l : Launch} {e : Env} {s : State} {m : MethodId} {args : Array Value} {below : List Frame} {meth : Method} {c : Code} (g : Gh) (q : Nat → Nat) (X : MX p s m args meth c cX2_board 6 none RX2) {rr : St} (σ : St)  (v1 : Nat) (v2 : Int32) (v3 : Int32) (v4 : Int32) (kv1 : kSh v1) (rc27 : St → Int32 → Option St) (hrc27 : ∀ (σ' : St) (v4' : Int32), rc27 σ' v4' = some rr → ∀ (H : Heap) (locs : List Loc) (ls : Array Slot), IC g q s σ' H locs → lv_has ls 6 [(0, .ref (q 1)), (1, .ref (q v1)), (2, .int v2), (3, .int v3), (4, .int v4')] → W p l e (rmD 4) s m args below meth c H locs 0 0 (MQ below (QV g (eC g q) q 23 rr s.heap.size) args s 0 0 (AQ q 23 s.heap.size)) (F0 m 27 ls [])) (hD : D_X2_board_27b σ rc27 v1 v2 v3 v4 = some rr) (H : Heap) (locs : List Loc) (ls : Array Slot) (I : IC g q s σ H locs) (hl : lv_has ls 6 [(0, .ref (q 1)), (1, .ref (q v1)), (2, .int v2), (3, .int v3), (4, .int v4)]) : W p l e (rmD 4) s m args below meth c H locs 0 0 (MQ below (QV g (eC g q) q 23 rr s.heap.size) args s 0 0 (AQ q 23 s.heap.size)) (F0 m 27 ls []) := by
  have hx := X.1
  have hb := X.2.1
  unfold D_X2_board_27b at hD
  refine lv_iload hx hb dX2_board_27 (lv_at hl 4 rfl) ?_
  refine lv_aload_n hx hb dX2_board_29 rfl (lv_at hl 0 rfl) ?_
  refine g_Ride_sections X I fl_X2_28 dX2_board_30 ?_
  refine lv_icmp_ge (tgt := 62) hx hb dX2_board_33 (by decide) (fun hc20 => ?_) (fun hc20 => ?_)
  · have hD := ite_p hc20 hD
    exact w_X2_board_62 g q X σ v1 v2 v3 kv1 hD _ _ _ I (lv_sub hl [0, 1, 2, 3] rfl)
  · have hD := ite_n hc20 hD
    refine lv_aload_n hx hb dX2_board_36 rfl (lv_at hl 0 rfl) ?_
    refine g_Ride_steep X I fl_X2_9 dX2_board_37 ?_
    refine lv_iload hx hb dX2_board_40 (lv_at hl 4 rfl) ?_
    refine lv_aload_n hx hb dX2_board_42 rfl (lv_at hl 1 rfl) ?_
    refine lv_iload_n hx hb dX2_board_43 rfl (lv_at hl 2 rfl) ?_
    refine lv_iconst (v := 3) hx hb dX2_board_44 (by decide) ?_
    refine lv_iadd hx hb dX2_board_45 ?_
    refine lv_iload hx hb dX2_board_46 (lv_at hl 4 rfl) ?_
    refine lv_iadd hx hb dX2_board_48 ?_
    obtain ⟨y30, hy30, hD⟩ := bd_s hD
    refine r_calli (r_runV (As := [.int ((v2 + (3 : Int32)) + v4)]) (rest := [.int v4, .ref (q 2)]) X I (c_X5_at l g q _ σ v1 ((v2 + (3 : Int32)) + v4) kv1 hy30) kv_X5_at ml_X2_35 rfl (kSh_lt kv1) (eC_Sheet g q _ kv1) ⟨Nat.le_of_ble_eq_true rfl, Nat.le_of_ble_eq_true rfl⟩ ⟨Nat.zero_le _, Nat.zero_le _⟩ rfl rfl hl.1 (Nat.le_of_ble_eq_true rfl) dX2_board_49) I (fun H locs I => ?_)
    obtain ⟨y31, hy31, hD⟩ := bd_s hD
    refine r_calli (r_runS (As := [.int y30]) (rest := [.int v4, .ref (q 2)]) X I (c_X3_digit l g q _ σ y30 hy31) ks_X3_digit ml_X2_41 ⟨Nat.le_of_ble_eq_true rfl, Nat.le_of_ble_eq_true rfl⟩ ⟨Nat.zero_le _, Nat.zero_le _⟩ rfl rfl hl.1 (Nat.le_of_ble_eq_true rfl) dX2_board_52) I (fun H locs I => ?_)
    obtain ⟨hg32, hD⟩ := gd_s hD
    refine r_iast (eC_loc g q) X I (by decide) (eCa_2 g q) hg32 dX2_board_55 (fun H locs I => ?_)
    refine lv_iinc (v := v4 + (1 : Int32)) (lv' := [(4, .int (v4 + (1 : Int32))), (0, .ref (q 1)), (1, .ref (q v1)), (2, .int v2), (3, .int v3)]) hx hb dX2_board_56 hl (k := 4) rfl rfl (by decide) rfl (fun ls hl => ?_)
    refine lv_goto (tgt := 27) hx hb dX2_board_59 (by decide) ?_
    exact hrc27 (up2 σ 2 v4.toNatClampNeg y31) (v4 + (1 : Int32)) hD _ _ _ I (lv_sub hl [1, 2, 3, 4, 0] rfl)
def D_X2_board_27  (v1 : Nat) (v2 : Int32) (v3 : Int32) : Nat → St → Int32 → Option St
  | 0 => fun _ _ => none
  | n + 1 => fun σ v4 => D_X2_board_27b σ (D_X2_board_27 v1 v2 v3 n) v1 v2 v3 v4
set_option maxRecDepth 100000 in
set_option maxHeartbeats 4000000 in
theorem w_X2_board_27 {p : Program} {l : Launch} {e : Env} {s : State} {m : MethodId} {args : Array Value} {below : List Frame} {meth : Method} {c : Code} (g : Gh) (q : Nat → Nat) (X : MX p s m args meth c cX2_board 6 none RX2) {rr : St}  (v1 : Nat) (v2 : Int32) (v3 : Int32) (kv1 : kSh v1) : ∀ (n : Nat) (σ : St) (v4 : Int32), D_X2_board_27 v1 v2 v3 n σ v4 = some rr → ∀ (H : Heap) (locs : List Loc) (ls : Array Slot), IC g q s σ H locs → lv_has ls 6 [(0, .ref (q 1)), (1, .ref (q v1)), (2, .int v2), (3, .int v3), (4, .int v4)] → W p l e (rmD 4) s m args below meth c H locs 0 0 (MQ below (QV g (eC g q) q 23 rr s.heap.size) args s 0 0 (AQ q 23 s.heap.size)) (F0 m 27 ls []) := by
  intro n
  induction n with
  | zero =>
    intro σ v4 hD H locs ls I hl
    cases hD
  | succ n ih =>
    intro σ v4 hD H locs ls I hl
    exact w_X2_board_27b g q X σ v1 v2 v3 v4 kv1 _ ih hD H locs ls I hl
def D_X2_board (σ : St) (p1 : Nat) (p2 : Int32) (p3 : Int32) : Option St := (D_X5_at σ p1 (p2 + (1 : Int32))).bind fun y6 => (D_X3_digit σ y6).bind fun y7 => (D_X3_sectionsTold (up2 σ 1 3 y7) p1 p2 p3).bind fun y13 => D_X2_board_27 p1 p2 p3 FU (up2 (up2 σ 1 3 y7) 1 4 y13) (0 : Int32)
set_option maxRecDepth 100000 in
set_option maxHeartbeats 4000000 in
theorem c_X2_board (l : Launch) (g : Gh) (q : Nat → Nat) (sz : Nat) (σ : St) (p1 : Nat) (p2 : Int32) (p3 : Int32) (kp1 : kSh p1) {rr : St} (hD : D_X2_board σ p1 p2 p3 = some rr) : Met l yX2_board (wU yX2_board cX2_board 6 none) (rmD 4) (PQ g (eC g q) q 23 σ sz [.ref (q 1), .ref (q p1), .int p2, .int p3]) (QV g (eC g q) q 23 rr sz) 0 0 (AQ q 23 sz) := by
  refine met_of (Qc := QV g (eC g q) q 23 rr) (by decide) (Nat.le_of_ble_eq_true rfl) ?_
  intro p e s m below meth c ls X I hl
  have hx := X.1
  have hb := X.2.1
  have hl : lv_has ls 6 [(0, .ref (q 1)), (1, .ref (q p1)), (2, .int p2), (3, .int p3)] := hl
  unfold D_X2_board at hD
  refine lv_aload_n hx hb dX2_board_0 rfl (lv_at hl 0 rfl) ?_
  refine lv_aload_n hx hb dX2_board_1 rfl (lv_at hl 1 rfl) ?_
  refine lv_iload_n hx hb dX2_board_2 rfl (lv_at hl 2 rfl) ?_
  refine lv_iconst (v := 1) hx hb dX2_board_3 (by decide) ?_
  refine lv_iadd hx hb dX2_board_4 ?_
  obtain ⟨y6, hy6, hD⟩ := bd_s hD
  refine r_calli (r_runV (As := [.int (p2 + (1 : Int32))]) (rest := [.ref (q 1)]) X I (c_X5_at l g q _ σ p1 (p2 + (1 : Int32)) kp1 hy6) kv_X5_at ml_X2_35 rfl (kSh_lt kp1) (eC_Sheet g q _ kp1) ⟨Nat.le_of_ble_eq_true rfl, Nat.le_of_ble_eq_true rfl⟩ ⟨Nat.zero_le _, Nat.zero_le _⟩ rfl rfl hl.1 (Nat.le_of_ble_eq_true rfl) dX2_board_5) I (fun H locs I => ?_)
  obtain ⟨y7, hy7, hD⟩ := bd_s hD
  refine r_calli (r_runS (As := [.int y6]) (rest := [.ref (q 1)]) X I (c_X3_digit l g q _ σ y6 hy7) ks_X3_digit ml_X2_41 ⟨Nat.le_of_ble_eq_true rfl, Nat.le_of_ble_eq_true rfl⟩ ⟨Nat.zero_le _, Nat.zero_le _⟩ rfl rfl hl.1 (Nat.le_of_ble_eq_true rfl) dX2_board_8) I (fun H locs I => ?_)
  refine p_Ride_seats X I fl_X2_24 dX2_board_11 (fun H locs I => ?_)
  refine lv_aload_n hx hb dX2_board_14 rfl (lv_at hl 0 rfl) ?_
  refine lv_aload_n hx hb dX2_board_15 rfl (lv_at hl 1 rfl) ?_
  refine lv_iload_n hx hb dX2_board_16 rfl (lv_at hl 2 rfl) ?_
  refine lv_iload_n hx hb dX2_board_17 rfl (lv_at hl 3 rfl) ?_
  obtain ⟨y13, hy13, hD⟩ := bd_s hD
  refine r_calli (r_runS (As := [.ref (q p1), .int p2, .int p3]) (rest := [.ref (q 1)]) X I (c_X3_sectionsTold l g q _ (up2 σ 1 3 y7) p1 p2 p3 kp1 hy13) ks_X3_sectionsTold ml_X2_46 ⟨Nat.le_of_ble_eq_true rfl, Nat.le_of_ble_eq_true rfl⟩ ⟨Nat.zero_le _, Nat.zero_le _⟩ rfl rfl hl.1 (Nat.le_of_ble_eq_true rfl) dX2_board_18) I (fun H locs I => ?_)
  refine p_Ride_sections X I fl_X2_28 dX2_board_21 (fun H locs I => ?_)
  refine lv_iconst (v := 0) hx hb dX2_board_24 (by decide) ?_
  refine lv_istore (lv' := [(4, .int (0 : Int32)), (0, .ref (q 1)), (1, .ref (q p1)), (2, .int p2), (3, .int p3)]) hx hb dX2_board_25 hl (by decide) rfl (fun ls hl => ?_)
  exact w_X2_board_27 g q X p1 p2 p3 kp1 FU (up2 (up2 σ 1 3 y7) 1 4 y13) (0 : Int32) hD _ _ _ I (lv_sub hl [1, 2, 3, 4, 0] rfl)

/-! YearDeck$Ride.isRight(LYearDeck$Rider;I)Z -/
def D_X2_isRight (σ : St) (p1 : Nat) (p2 : Int32) : Option Int32 := (D_X2_yearsOff σ p1 p2).bind fun y4 => if y4 = (σ p1 4) then some (1 : Int32) else some (0 : Int32)
set_option maxRecDepth 100000 in
set_option maxHeartbeats 4000000 in
theorem c_X2_isRight (l : Launch) (g : Gh) (q : Nat → Nat) (sz : Nat) (σ : St) (p1 : Nat) (p2 : Int32) (kp1 : kRi p1) {rr : Int32} (hD : D_X2_isRight σ p1 p2 = some rr) : Met l yX2_isRight (wU yX2_isRight cX2_isRight 3 (some .boolean)) (rmD 2) (PQ g (eC g q) q 23 σ sz [.ref (q 1), .ref (q p1), .int p2]) (QI g (eC g q) q 23 rr σ sz) 0 0 (AQ q 23 sz) := by
  refine met_of (Qc := QI g (eC g q) q 23 rr σ) (by decide) (Nat.le_of_ble_eq_true rfl) ?_
  intro p e s m below meth c ls X I hl
  have hx := X.1
  have hb := X.2.1
  have hl : lv_has ls 3 [(0, .ref (q 1)), (1, .ref (q p1)), (2, .int p2)] := hl
  unfold D_X2_isRight at hD
  refine lv_aload_n hx hb dX2_isRight_0 rfl (lv_at hl 0 rfl) ?_
  refine lv_aload_n hx hb dX2_isRight_1 rfl (lv_at hl 1 rfl) ?_
  refine lv_iload_n hx hb dX2_isRight_2 rfl (lv_at hl 2 rfl) ?_
  obtain ⟨y4, hy4, hD⟩ := bd_s hD
  refine r_calli (r_runV (As := [.ref (q p1), .int p2]) (rest := []) X I (c_X2_yearsOff l g q _ σ p1 p2 kp1 hy4) kv_X2_yearsOff ml_X2_66 rfl (by decide) (eC_Ride g q _) ⟨Nat.le_of_ble_eq_true rfl, Nat.le_of_ble_eq_true rfl⟩ ⟨Nat.zero_le _, Nat.zero_le _⟩ rfl rfl hl.1 (Nat.le_of_ble_eq_true rfl) dX2_isRight_3) I (fun H locs I => ?_)
  refine lv_aload_n hx hb dX2_isRight_6 rfl (lv_at hl 1 rfl) ?_
  refine g_Rider_want X I kp1 fl_X2_70 dX2_isRight_7 ?_
  refine lv_icmp_ne (tgt := 17) hx hb dX2_isRight_10 (by decide) (fun hc7 => ?_) (fun hc7 => ?_)
  · have hD := ite_n hc7 hD
    refine lv_iconst (v := 0) hx hb dX2_isRight_17 (by decide) ?_
    exact r_zret X I hD rfl dX2_isRight_18
  · have hD := ite_p hc7 hD
    refine lv_iconst (v := 1) hx hb dX2_isRight_13 (by decide) ?_
    refine lv_goto (tgt := 18) hx hb dX2_isRight_14 (by decide) ?_
    exact r_zret X I hD rfl dX2_isRight_18

/-! YearDeck$Ride.canSitAlone(LYearDeck$Rider;I)Z -/
def D_X2_canSitAlone (σ : St) (p1 : Nat) (p2 : Int32) : Option Int32 := (D_X4_owns σ p1 p2).bind fun y3 => if y3 = 0 then some (0 : Int32) else if p2 = 0 then some (1 : Int32) else if (σ 1 3) ≤ 0 then some (0 : Int32) else some (1 : Int32)
set_option maxRecDepth 100000 in
set_option maxHeartbeats 4000000 in
theorem c_X2_canSitAlone (l : Launch) (g : Gh) (q : Nat → Nat) (sz : Nat) (σ : St) (p1 : Nat) (p2 : Int32) (kp1 : kRi p1) {rr : Int32} (hD : D_X2_canSitAlone σ p1 p2 = some rr) : Met l yX2_canSitAlone (wU yX2_canSitAlone cX2_canSitAlone 3 (some .boolean)) (rmD 2) (PQ g (eC g q) q 23 σ sz [.ref (q 1), .ref (q p1), .int p2]) (QI g (eC g q) q 23 rr σ sz) 0 0 (AQ q 23 sz) := by
  refine met_of (Qc := QI g (eC g q) q 23 rr σ) (by decide) (Nat.le_of_ble_eq_true rfl) ?_
  intro p e s m below meth c ls X I hl
  have hx := X.1
  have hb := X.2.1
  have hl : lv_has ls 3 [(0, .ref (q 1)), (1, .ref (q p1)), (2, .int p2)] := hl
  unfold D_X2_canSitAlone at hD
  refine lv_aload_n hx hb dX2_canSitAlone_0 rfl (lv_at hl 1 rfl) ?_
  refine lv_iload_n hx hb dX2_canSitAlone_1 rfl (lv_at hl 2 rfl) ?_
  obtain ⟨y3, hy3, hD⟩ := bd_s hD
  refine r_calli (r_runV (As := [.int p2]) (rest := []) X I (c_X4_owns l g q _ σ p1 p2 kp1 hy3) kv_X4_owns ml_X2_73 rfl (kRi_lt kp1) (eC_Rider g q _ kp1) ⟨Nat.le_of_ble_eq_true rfl, Nat.le_of_ble_eq_true rfl⟩ ⟨Nat.zero_le _, Nat.zero_le _⟩ rfl rfl hl.1 (Nat.le_of_ble_eq_true rfl) dX2_canSitAlone_2) I (fun H locs I => ?_)
  refine lv_if_eq (tgt := 23) hx hb dX2_canSitAlone_5 (by decide) (fun hc4 => ?_) (fun hc4 => ?_)
  · have hD := ite_p hc4 hD
    refine lv_iconst (v := 0) hx hb dX2_canSitAlone_23 (by decide) ?_
    exact r_zret X I hD rfl dX2_canSitAlone_24
  · have hD := ite_n hc4 hD
    refine lv_iload_n hx hb dX2_canSitAlone_8 rfl (lv_at hl 2 rfl) ?_
    refine lv_if_eq (tgt := 19) hx hb dX2_canSitAlone_9 (by decide) (fun hc8 => ?_) (fun hc8 => ?_)
    · have hD := ite_p hc8 hD
      refine lv_iconst (v := 1) hx hb dX2_canSitAlone_19 (by decide) ?_
      refine lv_goto (tgt := 24) hx hb dX2_canSitAlone_20 (by decide) ?_
      exact r_zret X I hD rfl dX2_canSitAlone_24
    · have hD := ite_n hc8 hD
      refine lv_aload_n hx hb dX2_canSitAlone_12 rfl (lv_at hl 0 rfl) ?_
      refine g_Ride_seats X I fl_X2_24 dX2_canSitAlone_13 ?_
      refine lv_if_le (tgt := 23) hx hb dX2_canSitAlone_16 (by decide) (fun hc14 => ?_) (fun hc14 => ?_)
      · have hD := ite_p hc14 hD
        refine lv_iconst (v := 0) hx hb dX2_canSitAlone_23 (by decide) ?_
        exact r_zret X I hD rfl dX2_canSitAlone_24
      · have hD := ite_n hc14 hD
        refine lv_iconst (v := 1) hx hb dX2_canSitAlone_19 (by decide) ?_
        refine lv_goto (tgt := 24) hx hb dX2_canSitAlone_20 (by decide) ?_
        exact r_zret X I hD rfl dX2_canSitAlone_24

/-! YearDeck$Ride.firstOver(I)I -/
def D_X2_firstOver_2b (σ : St) (rc2 : Int32 → Option Int32) (v1 : Int32) (v2 : Int32) : Option Int32 := if (σ 1 4) ≤ v2 then some (-9 : Int32) else (D_X0_on σ v1 v2).bind fun y11 => if y11 ≤ (σ 1 3) then rc2 (v2 + (1 : Int32)) else some v2
set_option maxRecDepth 100000 in
set_option maxHeartbeats 4000000 in
theorem w_X2_firstOver_2b {p : Program} {l : Launch} {e : Env} {s : State} {m : MethodId} {args : Array Value} {below : List Frame} {meth : Method} {c : Code} (g : Gh) (q : Nat → Nat) (X : MX p s m args meth c cX2_firstOver 3 (some .int) RX2) {rr : Int32} (σ : St)  (v1 : Int32) (v2 : Int32) (rc2 : Int32 → Option Int32) (hrc2 : ∀ (v2' : Int32), rc2 v2' = some rr → ∀ (H : Heap) (locs : List Loc) (ls : Array Slot), IC g q s σ H locs → lv_has ls 3 [(0, .ref (q 1)), (1, .int v1), (2, .int v2')] → W p l e (rmD 1) s m args below meth c H locs 0 0 (MQ below (QI g (eC g q) q 23 rr σ s.heap.size) args s 0 0 (AQ q 23 s.heap.size)) (F0 m 2 ls [])) (hD : D_X2_firstOver_2b σ rc2 v1 v2 = some rr) (H : Heap) (locs : List Loc) (ls : Array Slot) (I : IC g q s σ H locs) (hl : lv_has ls 3 [(0, .ref (q 1)), (1, .int v1), (2, .int v2)]) : W p l e (rmD 1) s m args below meth c H locs 0 0 (MQ below (QI g (eC g q) q 23 rr σ s.heap.size) args s 0 0 (AQ q 23 s.heap.size)) (F0 m 2 ls []) := by
  have hx := X.1
  have hb := X.2.1
  unfold D_X2_firstOver_2b at hD
  refine lv_iload_n hx hb dX2_firstOver_2 rfl (lv_at hl 2 rfl) ?_
  refine lv_aload_n hx hb dX2_firstOver_3 rfl (lv_at hl 0 rfl) ?_
  refine g_Ride_sections X I fl_X2_28 dX2_firstOver_4 ?_
  refine lv_icmp_ge (tgt := 30) hx hb dX2_firstOver_7 (by decide) (fun hc6 => ?_) (fun hc6 => ?_)
  · have hD := ite_p hc6 hD
    refine lv_bipush (v := -9) hx hb dX2_firstOver_30 (by decide) ?_
    exact r_iret X I hD dX2_firstOver_32
  · have hD := ite_n hc6 hD
    refine lv_iload_n hx hb dX2_firstOver_10 rfl (lv_at hl 1 rfl) ?_
    refine lv_iload_n hx hb dX2_firstOver_11 rfl (lv_at hl 2 rfl) ?_
    obtain ⟨y11, hy11, hD⟩ := bd_s hD
    refine r_calli (r_runS (As := [.int v1, .int v2]) (rest := []) X I (c_X0_on l g q _ σ v1 v2 hy11) ks_X0_on ml_X2_77 ⟨Nat.le_of_ble_eq_true rfl, Nat.le_of_ble_eq_true rfl⟩ ⟨Nat.zero_le _, Nat.zero_le _⟩ rfl rfl hl.1 (Nat.le_of_ble_eq_true rfl) dX2_firstOver_12) I (fun H locs I => ?_)
    refine lv_aload_n hx hb dX2_firstOver_15 rfl (lv_at hl 0 rfl) ?_
    refine g_Ride_seats X I fl_X2_24 dX2_firstOver_16 ?_
    refine lv_icmp_le (tgt := 24) hx hb dX2_firstOver_19 (by decide) (fun hc14 => ?_) (fun hc14 => ?_)
    · have hD := ite_p hc14 hD
      refine lv_iinc (v := v2 + (1 : Int32)) (lv' := [(2, .int (v2 + (1 : Int32))), (0, .ref (q 1)), (1, .int v1)]) hx hb dX2_firstOver_24 hl (k := 2) rfl rfl (by decide) rfl (fun ls hl => ?_)
      refine lv_goto (tgt := 2) hx hb dX2_firstOver_27 (by decide) ?_
      exact hrc2 (v2 + (1 : Int32)) hD _ _ _ I (lv_sub hl [1, 2, 0] rfl)
    · have hD := ite_n hc14 hD
      refine lv_iload_n hx hb dX2_firstOver_22 rfl (lv_at hl 2 rfl) ?_
      exact r_iret X I hD dX2_firstOver_23
def D_X2_firstOver_2 (σ : St) (v1 : Int32) : Nat → Int32 → Option Int32
  | 0 => fun _ => none
  | n + 1 => fun v2 => D_X2_firstOver_2b σ (D_X2_firstOver_2 σ v1 n) v1 v2
set_option maxRecDepth 100000 in
set_option maxHeartbeats 4000000 in
theorem w_X2_firstOver_2 {p : Program} {l : Launch} {e : Env} {s : State} {m : MethodId} {args : Array Value} {below : List Frame} {meth : Method} {c : Code} (g : Gh) (q : Nat → Nat) (X : MX p s m args meth c cX2_firstOver 3 (some .int) RX2) {rr : Int32} (σ : St)  (v1 : Int32) : ∀ (n : Nat) (v2 : Int32), D_X2_firstOver_2 σ v1 n v2 = some rr → ∀ (H : Heap) (locs : List Loc) (ls : Array Slot), IC g q s σ H locs → lv_has ls 3 [(0, .ref (q 1)), (1, .int v1), (2, .int v2)] → W p l e (rmD 1) s m args below meth c H locs 0 0 (MQ below (QI g (eC g q) q 23 rr σ s.heap.size) args s 0 0 (AQ q 23 s.heap.size)) (F0 m 2 ls []) := by
  intro n
  induction n with
  | zero =>
    intro v2 hD H locs ls I hl
    cases hD
  | succ n ih =>
    intro v2 hD H locs ls I hl
    exact w_X2_firstOver_2b g q X σ v1 v2 _ ih hD H locs ls I hl
def D_X2_firstOver (σ : St) (p1 : Int32) : Option Int32 := D_X2_firstOver_2 σ p1 FU (0 : Int32)
set_option maxRecDepth 100000 in
set_option maxHeartbeats 4000000 in
theorem c_X2_firstOver (l : Launch) (g : Gh) (q : Nat → Nat) (sz : Nat) (σ : St) (p1 : Int32) {rr : Int32} (hD : D_X2_firstOver σ p1 = some rr) : Met l yX2_firstOver (wU yX2_firstOver cX2_firstOver 3 (some .int)) (rmD 1) (PQ g (eC g q) q 23 σ sz [.ref (q 1), .int p1]) (QI g (eC g q) q 23 rr σ sz) 0 0 (AQ q 23 sz) := by
  refine met_of (Qc := QI g (eC g q) q 23 rr σ) (by decide) (Nat.le_of_ble_eq_true rfl) ?_
  intro p e s m below meth c ls X I hl
  have hx := X.1
  have hb := X.2.1
  have hl : lv_has ls 3 [(0, .ref (q 1)), (1, .int p1)] := hl
  unfold D_X2_firstOver at hD
  refine lv_iconst (v := 0) hx hb dX2_firstOver_0 (by decide) ?_
  refine lv_istore_n (lv' := [(2, .int (0 : Int32)), (0, .ref (q 1)), (1, .int p1)]) hx hb dX2_firstOver_1 rfl hl (by decide) rfl (fun ls hl => ?_)
  exact w_X2_firstOver_2 g q X σ p1 FU (0 : Int32) hD _ _ _ I (lv_sub hl [1, 2, 0] rfl)

/-! YearDeck$Ride.bothAgree(LYearDeck$Rider;ILYearDeck$Rider;I)Z -/
def D_X2_bothAgree (σ : St) (p1 : Nat) (p2 : Int32) (p3 : Nat) (p4 : Int32) : Option Int32 := (D_X2_yearsOff σ p1 p2).bind fun y4 => (D_X2_yearsOff σ p3 p4).bind fun y8 => if y4 = y8 then (D_X0_of σ p2).bind fun y14 => (D_X0_of σ p4).bind fun y16 => (D_X2_firstOver σ (y14 + y16)).bind fun y18 => if y18 = (-9 : Int32) then some (1 : Int32) else some (0 : Int32) else some (0 : Int32)
set_option maxRecDepth 100000 in
set_option maxHeartbeats 4000000 in
theorem c_X2_bothAgree (l : Launch) (g : Gh) (q : Nat → Nat) (sz : Nat) (σ : St) (p1 : Nat) (p2 : Int32) (p3 : Nat) (p4 : Int32) (kp1 : kRi p1) (kp3 : kRi p3) {rr : Int32} (hD : D_X2_bothAgree σ p1 p2 p3 p4 = some rr) : Met l yX2_bothAgree (wU yX2_bothAgree cX2_bothAgree 5 (some .boolean)) (rmD 2) (PQ g (eC g q) q 23 σ sz [.ref (q 1), .ref (q p1), .int p2, .ref (q p3), .int p4]) (QI g (eC g q) q 23 rr σ sz) 0 0 (AQ q 23 sz) := by
  refine met_of (Qc := QI g (eC g q) q 23 rr σ) (by decide) (Nat.le_of_ble_eq_true rfl) ?_
  intro p e s m below meth c ls X I hl
  have hx := X.1
  have hb := X.2.1
  have hl : lv_has ls 5 [(0, .ref (q 1)), (1, .ref (q p1)), (2, .int p2), (3, .ref (q p3)), (4, .int p4)] := hl
  unfold D_X2_bothAgree at hD
  refine lv_aload_n hx hb dX2_bothAgree_0 rfl (lv_at hl 0 rfl) ?_
  refine lv_aload_n hx hb dX2_bothAgree_1 rfl (lv_at hl 1 rfl) ?_
  refine lv_iload_n hx hb dX2_bothAgree_2 rfl (lv_at hl 2 rfl) ?_
  obtain ⟨y4, hy4, hD⟩ := bd_s hD
  refine r_calli (r_runV (As := [.ref (q p1), .int p2]) (rest := []) X I (c_X2_yearsOff l g q _ σ p1 p2 kp1 hy4) kv_X2_yearsOff ml_X2_66 rfl (by decide) (eC_Ride g q _) ⟨Nat.le_of_ble_eq_true rfl, Nat.le_of_ble_eq_true rfl⟩ ⟨Nat.zero_le _, Nat.zero_le _⟩ rfl rfl hl.1 (Nat.le_of_ble_eq_true rfl) dX2_bothAgree_3) I (fun H locs I => ?_)
  refine lv_aload_n hx hb dX2_bothAgree_6 rfl (lv_at hl 0 rfl) ?_
  refine lv_aload_n hx hb dX2_bothAgree_7 rfl (lv_at hl 3 rfl) ?_
  refine lv_iload hx hb dX2_bothAgree_8 (lv_at hl 4 rfl) ?_
  obtain ⟨y8, hy8, hD⟩ := bd_s hD
  refine r_calli (r_runV (As := [.ref (q p3), .int p4]) (rest := [.int y4]) X I (c_X2_yearsOff l g q _ σ p3 p4 kp3 hy8) kv_X2_yearsOff ml_X2_66 rfl (by decide) (eC_Ride g q _) ⟨Nat.le_of_ble_eq_true rfl, Nat.le_of_ble_eq_true rfl⟩ ⟨Nat.zero_le _, Nat.zero_le _⟩ rfl rfl hl.1 (Nat.le_of_ble_eq_true rfl) dX2_bothAgree_10) I (fun H locs I => ?_)
  refine lv_icmp_ne (tgt := 39) hx hb dX2_bothAgree_13 (by decide) (fun hc9 => ?_) (fun hc9 => ?_)
  · have hD := ite_n hc9 hD
    refine lv_iconst (v := 0) hx hb dX2_bothAgree_39 (by decide) ?_
    exact r_zret X I hD rfl dX2_bothAgree_40
  · have hD := ite_p hc9 hD
    refine lv_aload_n hx hb dX2_bothAgree_16 rfl (lv_at hl 0 rfl) ?_
    refine lv_iload_n hx hb dX2_bothAgree_17 rfl (lv_at hl 2 rfl) ?_
    obtain ⟨y14, hy14, hD⟩ := bd_s hD
    refine r_calli (r_runS (As := [.int p2]) (rest := [.ref (q 1)]) X I (c_X0_of l g q _ σ p2 hy14) ks_X0_of ml_X2_95 ⟨Nat.le_of_ble_eq_true rfl, Nat.le_of_ble_eq_true rfl⟩ ⟨Nat.zero_le _, Nat.zero_le _⟩ rfl rfl hl.1 (Nat.le_of_ble_eq_true rfl) dX2_bothAgree_18) I (fun H locs I => ?_)
    refine lv_iload hx hb dX2_bothAgree_21 (lv_at hl 4 rfl) ?_
    obtain ⟨y16, hy16, hD⟩ := bd_s hD
    refine r_calli (r_runS (As := [.int p4]) (rest := [.int y14, .ref (q 1)]) X I (c_X0_of l g q _ σ p4 hy16) ks_X0_of ml_X2_95 ⟨Nat.le_of_ble_eq_true rfl, Nat.le_of_ble_eq_true rfl⟩ ⟨Nat.zero_le _, Nat.zero_le _⟩ rfl rfl hl.1 (Nat.le_of_ble_eq_true rfl) dX2_bothAgree_23) I (fun H locs I => ?_)
    refine lv_iadd hx hb dX2_bothAgree_26 ?_
    obtain ⟨y18, hy18, hD⟩ := bd_s hD
    refine r_calli (r_runV (As := [.int (y14 + y16)]) (rest := []) X I (c_X2_firstOver l g q _ σ (y14 + y16) hy18) kv_X2_firstOver ml_X2_98 rfl (by decide) (eC_Ride g q _) ⟨Nat.le_of_ble_eq_true rfl, Nat.le_of_ble_eq_true rfl⟩ ⟨Nat.zero_le _, Nat.zero_le _⟩ rfl rfl hl.1 (Nat.le_of_ble_eq_true rfl) dX2_bothAgree_27) I (fun H locs I => ?_)
    refine lv_bipush (v := -9) hx hb dX2_bothAgree_30 (by decide) ?_
    refine lv_icmp_ne (tgt := 39) hx hb dX2_bothAgree_32 (by decide) (fun hc20 => ?_) (fun hc20 => ?_)
    · have hD := ite_n hc20 hD
      refine lv_iconst (v := 0) hx hb dX2_bothAgree_39 (by decide) ?_
      exact r_zret X I hD rfl dX2_bothAgree_40
    · have hD := ite_p hc20 hD
      refine lv_iconst (v := 1) hx hb dX2_bothAgree_35 (by decide) ?_
      refine lv_goto (tgt := 40) hx hb dX2_bothAgree_36 (by decide) ?_
      exact r_zret X I hD rfl dX2_bothAgree_40

/-! YearDeck$Ride.agreeing(LYearDeck$Rider;LYearDeck$Rider;)I -/
def D_X2_agreeing_100 (σ : St) (rc10 : Int32 → Int32 → Int32 → Option Int32) (v1 : Nat) (v2 : Nat) (v3 : Int32) (v4 : Int32) (v5 : Int32) : Option Int32 := rc10 v3 v4 (v5 + (1 : Int32))
set_option maxRecDepth 100000 in
set_option maxHeartbeats 4000000 in
theorem w_X2_agreeing_100 {p : Program} {l : Launch} {e : Env} {s : State} {m : MethodId} {args : Array Value} {below : List Frame} {meth : Method} {c : Code} (g : Gh) (q : Nat → Nat) (X : MX p s m args meth c cX2_agreeing 8 (some .int) RX2) {rr : Int32} (σ : St)  (v1 : Nat) (v2 : Nat) (v3 : Int32) (v4 : Int32) (v5 : Int32) (kv1 : kRi v1) (kv2 : kRi v2) (rc10 : Int32 → Int32 → Int32 → Option Int32) (hrc10 : ∀ (v3' : Int32) (v4' : Int32) (v5' : Int32), rc10 v3' v4' v5' = some rr → ∀ (H : Heap) (locs : List Loc) (ls : Array Slot), IC g q s σ H locs → lv_has ls 8 [(0, .ref (q 1)), (1, .ref (q v1)), (2, .ref (q v2)), (3, .int v3'), (4, .int v4'), (5, .int v5')] → W p l e (rmD 3) s m args below meth c H locs 0 0 (MQ below (QI g (eC g q) q 23 rr σ s.heap.size) args s 0 0 (AQ q 23 s.heap.size)) (F0 m 10 ls [])) (hD : D_X2_agreeing_100 σ rc10 v1 v2 v3 v4 v5 = some rr) (H : Heap) (locs : List Loc) (ls : Array Slot) (I : IC g q s σ H locs) (hl : lv_has ls 8 [(0, .ref (q 1)), (1, .ref (q v1)), (2, .ref (q v2)), (3, .int v3), (4, .int v4), (5, .int v5)]) : W p l e (rmD 3) s m args below meth c H locs 0 0 (MQ below (QI g (eC g q) q 23 rr σ s.heap.size) args s 0 0 (AQ q 23 s.heap.size)) (F0 m 100 ls []) := by
  have hx := X.1
  have hb := X.2.1
  unfold D_X2_agreeing_100 at hD
  refine lv_iinc (v := v5 + (1 : Int32)) (lv' := [(5, .int (v5 + (1 : Int32))), (0, .ref (q 1)), (1, .ref (q v1)), (2, .ref (q v2)), (3, .int v3), (4, .int v4)]) hx hb dX2_agreeing_100 hl (k := 5) rfl rfl (by decide) rfl (fun ls hl => ?_)
  refine lv_goto (tgt := 10) hx hb dX2_agreeing_103 (by decide) ?_
  exact hrc10 v3 v4 (v5 + (1 : Int32)) hD _ _ _ I (lv_sub hl [1, 2, 3, 4, 5, 0] rfl)
def D_X2_agreeing_94 (σ : St) (rc10 : Int32 → Int32 → Int32 → Option Int32) (rc22 : Int32 → Int32 → Int32 → Option Int32) (v1 : Nat) (v2 : Nat) (v3 : Int32) (v4 : Int32) (v5 : Int32) (v6 : Int32) : Option Int32 := rc22 v3 v4 (v6 + (1 : Int32))
set_option maxRecDepth 100000 in
set_option maxHeartbeats 4000000 in
theorem w_X2_agreeing_94 {p : Program} {l : Launch} {e : Env} {s : State} {m : MethodId} {args : Array Value} {below : List Frame} {meth : Method} {c : Code} (g : Gh) (q : Nat → Nat) (X : MX p s m args meth c cX2_agreeing 8 (some .int) RX2) {rr : Int32} (σ : St)  (v1 : Nat) (v2 : Nat) (v3 : Int32) (v4 : Int32) (v5 : Int32) (v6 : Int32) (kv1 : kRi v1) (kv2 : kRi v2) (rc10 : Int32 → Int32 → Int32 → Option Int32) (rc22 : Int32 → Int32 → Int32 → Option Int32) (hrc10 : ∀ (v3' : Int32) (v4' : Int32) (v5' : Int32), rc10 v3' v4' v5' = some rr → ∀ (H : Heap) (locs : List Loc) (ls : Array Slot), IC g q s σ H locs → lv_has ls 8 [(0, .ref (q 1)), (1, .ref (q v1)), (2, .ref (q v2)), (3, .int v3'), (4, .int v4'), (5, .int v5')] → W p l e (rmD 3) s m args below meth c H locs 0 0 (MQ below (QI g (eC g q) q 23 rr σ s.heap.size) args s 0 0 (AQ q 23 s.heap.size)) (F0 m 10 ls [])) (hrc22 : ∀ (v3' : Int32) (v4' : Int32) (v6' : Int32), rc22 v3' v4' v6' = some rr → ∀ (H : Heap) (locs : List Loc) (ls : Array Slot), IC g q s σ H locs → lv_has ls 8 [(0, .ref (q 1)), (1, .ref (q v1)), (2, .ref (q v2)), (3, .int v3'), (4, .int v4'), (5, .int v5), (6, .int v6')] → W p l e (rmD 3) s m args below meth c H locs 0 0 (MQ below (QI g (eC g q) q 23 rr σ s.heap.size) args s 0 0 (AQ q 23 s.heap.size)) (F0 m 22 ls [])) (hD : D_X2_agreeing_94 σ rc10 rc22 v1 v2 v3 v4 v5 v6 = some rr) (H : Heap) (locs : List Loc) (ls : Array Slot) (I : IC g q s σ H locs) (hl : lv_has ls 8 [(0, .ref (q 1)), (1, .ref (q v1)), (2, .ref (q v2)), (3, .int v3), (4, .int v4), (5, .int v5), (6, .int v6)]) : W p l e (rmD 3) s m args below meth c H locs 0 0 (MQ below (QI g (eC g q) q 23 rr σ s.heap.size) args s 0 0 (AQ q 23 s.heap.size)) (F0 m 94 ls []) := by
  have hx := X.1
  have hb := X.2.1
  unfold D_X2_agreeing_94 at hD
  refine lv_iinc (v := v6 + (1 : Int32)) (lv' := [(6, .int (v6 + (1 : Int32))), (0, .ref (q 1)), (1, .ref (q v1)), (2, .ref (q v2)), (3, .int v3), (4, .int v4), (5, .int v5)]) hx hb dX2_agreeing_94 hl (k := 6) rfl rfl (by decide) rfl (fun ls hl => ?_)
  refine lv_goto (tgt := 22) hx hb dX2_agreeing_97 (by decide) ?_
  exact hrc22 v3 v4 (v6 + (1 : Int32)) hD _ _ _ I (lv_sub hl [1, 2, 3, 4, 5, 6, 0] rfl)
def D_X2_agreeing_22b (σ : St) (rc10 : Int32 → Int32 → Int32 → Option Int32) (rc22 : Int32 → Int32 → Int32 → Option Int32) (v1 : Nat) (v2 : Nat) (v3 : Int32) (v4 : Int32) (v5 : Int32) (v6 : Int32) : Option Int32 := (D_X4_own σ v2).bind fun y17 => if y17 < v6 then D_X2_agreeing_100 σ rc10 v1 v2 v3 v4 v5 else (D_J6_bitCount_0f7a4 σ v5).bind fun y20 => (D_J6_bitCount_0f7a4 σ v6).bind fun y22 => if v4 ≤ (y20 + y22) then D_X2_agreeing_94 σ rc10 rc22 v1 v2 v3 v4 v5 v6 else (D_X4_owns σ v1 v5).bind fun y30 => if y30 = 0 then D_X2_agreeing_94 σ rc10 rc22 v1 v2 v3 v4 v5 v6 else (D_X4_owns σ v2 v6).bind fun y34 => if y34 = 0 then D_X2_agreeing_94 σ rc10 rc22 v1 v2 v3 v4 v5 v6 else (D_X2_bothAgree σ v1 v5 v2 v6).bind fun y41 => if y41 = 0 then D_X2_agreeing_94 σ rc10 rc22 v1 v2 v3 v4 v5 v6 else D_X2_agreeing_94 σ rc10 rc22 v1 v2 ((v5 <<< ((5 : Int32) &&& 31)) ||| v6) (y20 + y22) v5 v6
set_option maxRecDepth 100000 in
set_option maxHeartbeats 4000000 in
theorem w_X2_agreeing_22b {p : Program} {l : Launch} {e : Env} {s : State} {m : MethodId} {args : Array Value} {below : List Frame} {meth : Method} {c : Code} (g : Gh) (q : Nat → Nat) (X : MX p s m args meth c cX2_agreeing 8 (some .int) RX2) {rr : Int32} (σ : St)  (v1 : Nat) (v2 : Nat) (v3 : Int32) (v4 : Int32) (v5 : Int32) (v6 : Int32) (kv1 : kRi v1) (kv2 : kRi v2) (rc10 : Int32 → Int32 → Int32 → Option Int32) (rc22 : Int32 → Int32 → Int32 → Option Int32) (hrc10 : ∀ (v3' : Int32) (v4' : Int32) (v5' : Int32), rc10 v3' v4' v5' = some rr → ∀ (H : Heap) (locs : List Loc) (ls : Array Slot), IC g q s σ H locs → lv_has ls 8 [(0, .ref (q 1)), (1, .ref (q v1)), (2, .ref (q v2)), (3, .int v3'), (4, .int v4'), (5, .int v5')] → W p l e (rmD 3) s m args below meth c H locs 0 0 (MQ below (QI g (eC g q) q 23 rr σ s.heap.size) args s 0 0 (AQ q 23 s.heap.size)) (F0 m 10 ls [])) (hrc22 : ∀ (v3' : Int32) (v4' : Int32) (v6' : Int32), rc22 v3' v4' v6' = some rr → ∀ (H : Heap) (locs : List Loc) (ls : Array Slot), IC g q s σ H locs → lv_has ls 8 [(0, .ref (q 1)), (1, .ref (q v1)), (2, .ref (q v2)), (3, .int v3'), (4, .int v4'), (5, .int v5), (6, .int v6')] → W p l e (rmD 3) s m args below meth c H locs 0 0 (MQ below (QI g (eC g q) q 23 rr σ s.heap.size) args s 0 0 (AQ q 23 s.heap.size)) (F0 m 22 ls [])) (hD : D_X2_agreeing_22b σ rc10 rc22 v1 v2 v3 v4 v5 v6 = some rr) (H : Heap) (locs : List Loc) (ls : Array Slot) (I : IC g q s σ H locs) (hl : lv_has ls 8 [(0, .ref (q 1)), (1, .ref (q v1)), (2, .ref (q v2)), (3, .int v3), (4, .int v4), (5, .int v5), (6, .int v6)]) : W p l e (rmD 3) s m args below meth c H locs 0 0 (MQ below (QI g (eC g q) q 23 rr σ s.heap.size) args s 0 0 (AQ q 23 s.heap.size)) (F0 m 22 ls []) := by
  have hx := X.1
  have hb := X.2.1
  unfold D_X2_agreeing_22b at hD
  refine lv_iload hx hb dX2_agreeing_22 (lv_at hl 6 rfl) ?_
  refine lv_aload_n hx hb dX2_agreeing_24 rfl (lv_at hl 2 rfl) ?_
  obtain ⟨y17, hy17, hD⟩ := bd_s hD
  refine r_calli (r_runV (As := []) (rest := [.int v6]) X I (c_X4_own l g q _ σ v2 kv2 hy17) kv_X4_own ml_X2_82 rfl (kRi_lt kv2) (eC_Rider g q _ kv2) ⟨Nat.le_of_ble_eq_true rfl, Nat.le_of_ble_eq_true rfl⟩ ⟨Nat.zero_le _, Nat.zero_le _⟩ rfl rfl hl.1 (Nat.le_of_ble_eq_true rfl) dX2_agreeing_25) I (fun H locs I => ?_)
  refine lv_icmp_gt (tgt := 100) hx hb dX2_agreeing_28 (by decide) (fun hc18 => ?_) (fun hc18 => ?_)
  · have hD := ite_p hc18 hD
    exact w_X2_agreeing_100 g q X σ v1 v2 v3 v4 v5 kv1 kv2 rc10 hrc10 hD _ _ _ I (lv_sub hl [0, 1, 2, 3, 4, 5] rfl)
  · have hD := ite_n hc18 hD
    refine lv_iload hx hb dX2_agreeing_31 (lv_at hl 5 rfl) ?_
    obtain ⟨y20, hy20, hD⟩ := bd_s hD
    refine r_calli (r_runS (As := [.int v5]) (rest := []) X I (c_J6_bitCount_0f7a4 l g q _ σ v5 hy20) ks_J6_bitCount_0f7a4 ml_X2_86 ⟨Nat.le_of_ble_eq_true rfl, Nat.le_of_ble_eq_true rfl⟩ ⟨Nat.zero_le _, Nat.zero_le _⟩ rfl rfl hl.1 (Nat.le_of_ble_eq_true rfl) dX2_agreeing_33) I (fun H locs I => ?_)
    refine lv_iload hx hb dX2_agreeing_36 (lv_at hl 6 rfl) ?_
    obtain ⟨y22, hy22, hD⟩ := bd_s hD
    refine r_calli (r_runS (As := [.int v6]) (rest := [.int y20]) X I (c_J6_bitCount_0f7a4 l g q _ σ v6 hy22) ks_J6_bitCount_0f7a4 ml_X2_86 ⟨Nat.le_of_ble_eq_true rfl, Nat.le_of_ble_eq_true rfl⟩ ⟨Nat.zero_le _, Nat.zero_le _⟩ rfl rfl hl.1 (Nat.le_of_ble_eq_true rfl) dX2_agreeing_38) I (fun H locs I => ?_)
    refine lv_iadd hx hb dX2_agreeing_41 ?_
    refine lv_istore (lv' := [(7, .int (y20 + y22)), (0, .ref (q 1)), (1, .ref (q v1)), (2, .ref (q v2)), (3, .int v3), (4, .int v4), (5, .int v5), (6, .int v6)]) hx hb dX2_agreeing_42 hl (by decide) rfl (fun ls hl => ?_)
    refine lv_iload hx hb dX2_agreeing_44 (lv_at hl 0 rfl) ?_
    refine lv_iload hx hb dX2_agreeing_46 (lv_at hl 5 rfl) ?_
    refine lv_icmp_ge (tgt := 94) hx hb dX2_agreeing_48 (by decide) (fun hc27 => ?_) (fun hc27 => ?_)
    · have hD := ite_p hc27 hD
      exact w_X2_agreeing_94 g q X σ v1 v2 v3 v4 v5 v6 kv1 kv2 rc10 rc22 hrc10 hrc22 hD _ _ _ I (lv_sub hl [1, 2, 3, 4, 5, 6, 7] rfl)
    · have hD := ite_n hc27 hD
      refine lv_aload_n hx hb dX2_agreeing_51 rfl (lv_at hl 2 rfl) ?_
      refine lv_iload hx hb dX2_agreeing_52 (lv_at hl 6 rfl) ?_
      obtain ⟨y30, hy30, hD⟩ := bd_s hD
      refine r_calli (r_runV (As := [.int v5]) (rest := []) X I (c_X4_owns l g q _ σ v1 v5 kv1 hy30) kv_X4_owns ml_X2_73 rfl (kRi_lt kv1) (eC_Rider g q _ kv1) ⟨Nat.le_of_ble_eq_true rfl, Nat.le_of_ble_eq_true rfl⟩ ⟨Nat.zero_le _, Nat.zero_le _⟩ rfl rfl hl.1 (Nat.le_of_ble_eq_true rfl) dX2_agreeing_54) I (fun H locs I => ?_)
      refine lv_if_eq (tgt := 94) hx hb dX2_agreeing_57 (by decide) (fun hc31 => ?_) (fun hc31 => ?_)
      · have hD := ite_p hc31 hD
        exact w_X2_agreeing_94 g q X σ v1 v2 v3 v4 v5 v6 kv1 kv2 rc10 rc22 hrc10 hrc22 hD _ _ _ I (lv_sub hl [1, 2, 3, 4, 5, 6, 7] rfl)
      · have hD := ite_n hc31 hD
        refine lv_aload_n hx hb dX2_agreeing_60 rfl (lv_at hl 3 rfl) ?_
        refine lv_iload hx hb dX2_agreeing_61 (lv_at hl 7 rfl) ?_
        obtain ⟨y34, hy34, hD⟩ := bd_s hD
        refine r_calli (r_runV (As := [.int v6]) (rest := []) X I (c_X4_owns l g q _ σ v2 v6 kv2 hy34) kv_X4_owns ml_X2_73 rfl (kRi_lt kv2) (eC_Rider g q _ kv2) ⟨Nat.le_of_ble_eq_true rfl, Nat.le_of_ble_eq_true rfl⟩ ⟨Nat.zero_le _, Nat.zero_le _⟩ rfl rfl hl.1 (Nat.le_of_ble_eq_true rfl) dX2_agreeing_63) I (fun H locs I => ?_)
        refine lv_if_eq (tgt := 94) hx hb dX2_agreeing_66 (by decide) (fun hc35 => ?_) (fun hc35 => ?_)
        · have hD := ite_p hc35 hD
          exact w_X2_agreeing_94 g q X σ v1 v2 v3 v4 v5 v6 kv1 kv2 rc10 rc22 hrc10 hrc22 hD _ _ _ I (lv_sub hl [1, 2, 3, 4, 5, 6, 7] rfl)
        · have hD := ite_n hc35 hD
          refine lv_aload_n hx hb dX2_agreeing_69 rfl (lv_at hl 1 rfl) ?_
          refine lv_aload_n hx hb dX2_agreeing_70 rfl (lv_at hl 2 rfl) ?_
          refine lv_iload hx hb dX2_agreeing_71 (lv_at hl 6 rfl) ?_
          refine lv_aload_n hx hb dX2_agreeing_73 rfl (lv_at hl 3 rfl) ?_
          refine lv_iload hx hb dX2_agreeing_74 (lv_at hl 7 rfl) ?_
          obtain ⟨y41, hy41, hD⟩ := bd_s hD
          refine r_calli (r_runV (As := [.ref (q v1), .int v5, .ref (q v2), .int v6]) (rest := []) X I (c_X2_bothAgree l g q _ σ v1 v5 v2 v6 kv1 kv2 hy41) kv_X2_bothAgree ml_X2_91 rfl (by decide) (eC_Ride g q _) ⟨Nat.le_of_ble_eq_true rfl, Nat.le_of_ble_eq_true rfl⟩ ⟨Nat.zero_le _, Nat.zero_le _⟩ rfl rfl hl.1 (Nat.le_of_ble_eq_true rfl) dX2_agreeing_76) I (fun H locs I => ?_)
          refine lv_if_eq (tgt := 94) hx hb dX2_agreeing_79 (by decide) (fun hc42 => ?_) (fun hc42 => ?_)
          · have hD := ite_p hc42 hD
            exact w_X2_agreeing_94 g q X σ v1 v2 v3 v4 v5 v6 kv1 kv2 rc10 rc22 hrc10 hrc22 hD _ _ _ I (lv_sub hl [1, 2, 3, 4, 5, 6, 7] rfl)
          · have hD := ite_n hc42 hD
            refine lv_iload hx hb dX2_agreeing_82 (lv_at hl 0 rfl) ?_
            refine lv_istore (lv' := [(4, .int (y20 + y22)), (7, .int (y20 + y22)), (0, .ref (q 1)), (1, .ref (q v1)), (2, .ref (q v2)), (3, .int v3), (5, .int v5), (6, .int v6)]) hx hb dX2_agreeing_84 hl (by decide) rfl (fun ls hl => ?_)
            refine lv_iload hx hb dX2_agreeing_86 (lv_at hl 6 rfl) ?_
            refine lv_iconst (v := 5) hx hb dX2_agreeing_88 (by decide) ?_
            refine lv_ishl hx hb dX2_agreeing_89 ?_
            refine lv_iload hx hb dX2_agreeing_90 (lv_at hl 7 rfl) ?_
            refine lv_ior hx hb dX2_agreeing_92 ?_
            refine lv_istore_n (lv' := [(3, .int ((v5 <<< ((5 : Int32) &&& 31)) ||| v6)), (4, .int (y20 + y22)), (7, .int (y20 + y22)), (0, .ref (q 1)), (1, .ref (q v1)), (2, .ref (q v2)), (5, .int v5), (6, .int v6)]) hx hb dX2_agreeing_93 rfl hl (by decide) rfl (fun ls hl => ?_)
            exact w_X2_agreeing_94 g q X σ v1 v2 ((v5 <<< ((5 : Int32) &&& 31)) ||| v6) (y20 + y22) v5 v6 kv1 kv2 rc10 rc22 hrc10 hrc22 hD _ _ _ I (lv_sub hl [3, 4, 5, 0, 1, 6, 7] rfl)
def D_X2_agreeing_22 (σ : St) (v1 : Nat) (v2 : Nat) (v5 : Int32) (rc10 : Int32 → Int32 → Int32 → Option Int32) : Nat → Int32 → Int32 → Int32 → Option Int32
  | 0 => fun _ _ _ => none
  | n + 1 => fun v3 v4 v6 => D_X2_agreeing_22b σ rc10 (D_X2_agreeing_22 σ v1 v2 v5 rc10 n) v1 v2 v3 v4 v5 v6
set_option maxRecDepth 100000 in
set_option maxHeartbeats 4000000 in
theorem w_X2_agreeing_22 {p : Program} {l : Launch} {e : Env} {s : State} {m : MethodId} {args : Array Value} {below : List Frame} {meth : Method} {c : Code} (g : Gh) (q : Nat → Nat) (X : MX p s m args meth c cX2_agreeing 8 (some .int) RX2) {rr : Int32} (σ : St)  (v1 : Nat) (v2 : Nat) (v5 : Int32) (kv1 : kRi v1) (kv2 : kRi v2) (rc10 : Int32 → Int32 → Int32 → Option Int32) (hrc10 : ∀ (v3' : Int32) (v4' : Int32) (v5' : Int32), rc10 v3' v4' v5' = some rr → ∀ (H : Heap) (locs : List Loc) (ls : Array Slot), IC g q s σ H locs → lv_has ls 8 [(0, .ref (q 1)), (1, .ref (q v1)), (2, .ref (q v2)), (3, .int v3'), (4, .int v4'), (5, .int v5')] → W p l e (rmD 3) s m args below meth c H locs 0 0 (MQ below (QI g (eC g q) q 23 rr σ s.heap.size) args s 0 0 (AQ q 23 s.heap.size)) (F0 m 10 ls [])) : ∀ (n : Nat) (v3 : Int32) (v4 : Int32) (v6 : Int32), D_X2_agreeing_22 σ v1 v2 v5 rc10 n v3 v4 v6 = some rr → ∀ (H : Heap) (locs : List Loc) (ls : Array Slot), IC g q s σ H locs → lv_has ls 8 [(0, .ref (q 1)), (1, .ref (q v1)), (2, .ref (q v2)), (3, .int v3), (4, .int v4), (5, .int v5), (6, .int v6)] → W p l e (rmD 3) s m args below meth c H locs 0 0 (MQ below (QI g (eC g q) q 23 rr σ s.heap.size) args s 0 0 (AQ q 23 s.heap.size)) (F0 m 22 ls []) := by
  intro n
  induction n with
  | zero =>
    intro v3 v4 v6 hD H locs ls I hl
    cases hD
  | succ n ih =>
    intro v3 v4 v6 hD H locs ls I hl
    exact w_X2_agreeing_22b g q X σ v1 v2 v3 v4 v5 v6 kv1 kv2 rc10 _ hrc10 ih hD H locs ls I hl
def D_X2_agreeing_10b (σ : St) (rc10 : Int32 → Int32 → Int32 → Option Int32) (v1 : Nat) (v2 : Nat) (v3 : Int32) (v4 : Int32) (v5 : Int32) : Option Int32 := (D_X4_own σ v1).bind fun y9 => if y9 < v5 then some v3 else D_X2_agreeing_22 σ v1 v2 v5 rc10 FU v3 v4 (0 : Int32)
set_option maxRecDepth 100000 in
set_option maxHeartbeats 4000000 in
theorem w_X2_agreeing_10b {p : Program} {l : Launch} {e : Env} {s : State} {m : MethodId} {args : Array Value} {below : List Frame} {meth : Method} {c : Code} (g : Gh) (q : Nat → Nat) (X : MX p s m args meth c cX2_agreeing 8 (some .int) RX2) {rr : Int32} (σ : St)  (v1 : Nat) (v2 : Nat) (v3 : Int32) (v4 : Int32) (v5 : Int32) (kv1 : kRi v1) (kv2 : kRi v2) (rc10 : Int32 → Int32 → Int32 → Option Int32) (hrc10 : ∀ (v3' : Int32) (v4' : Int32) (v5' : Int32), rc10 v3' v4' v5' = some rr → ∀ (H : Heap) (locs : List Loc) (ls : Array Slot), IC g q s σ H locs → lv_has ls 8 [(0, .ref (q 1)), (1, .ref (q v1)), (2, .ref (q v2)), (3, .int v3'), (4, .int v4'), (5, .int v5')] → W p l e (rmD 3) s m args below meth c H locs 0 0 (MQ below (QI g (eC g q) q 23 rr σ s.heap.size) args s 0 0 (AQ q 23 s.heap.size)) (F0 m 10 ls [])) (hD : D_X2_agreeing_10b σ rc10 v1 v2 v3 v4 v5 = some rr) (H : Heap) (locs : List Loc) (ls : Array Slot) (I : IC g q s σ H locs) (hl : lv_has ls 8 [(0, .ref (q 1)), (1, .ref (q v1)), (2, .ref (q v2)), (3, .int v3), (4, .int v4), (5, .int v5)]) : W p l e (rmD 3) s m args below meth c H locs 0 0 (MQ below (QI g (eC g q) q 23 rr σ s.heap.size) args s 0 0 (AQ q 23 s.heap.size)) (F0 m 10 ls []) := by
  have hx := X.1
  have hb := X.2.1
  unfold D_X2_agreeing_10b at hD
  refine lv_iload hx hb dX2_agreeing_10 (lv_at hl 5 rfl) ?_
  refine lv_aload_n hx hb dX2_agreeing_12 rfl (lv_at hl 1 rfl) ?_
  obtain ⟨y9, hy9, hD⟩ := bd_s hD
  refine r_calli (r_runV (As := []) (rest := [.int v5]) X I (c_X4_own l g q _ σ v1 kv1 hy9) kv_X4_own ml_X2_82 rfl (kRi_lt kv1) (eC_Rider g q _ kv1) ⟨Nat.le_of_ble_eq_true rfl, Nat.le_of_ble_eq_true rfl⟩ ⟨Nat.zero_le _, Nat.zero_le _⟩ rfl rfl hl.1 (Nat.le_of_ble_eq_true rfl) dX2_agreeing_13) I (fun H locs I => ?_)
  refine lv_icmp_gt (tgt := 106) hx hb dX2_agreeing_16 (by decide) (fun hc10 => ?_) (fun hc10 => ?_)
  · have hD := ite_p hc10 hD
    refine lv_iload_n hx hb dX2_agreeing_106 rfl (lv_at hl 3 rfl) ?_
    exact r_iret X I hD dX2_agreeing_107
  · have hD := ite_n hc10 hD
    refine lv_iconst (v := 0) hx hb dX2_agreeing_19 (by decide) ?_
    refine lv_istore (lv' := [(6, .int (0 : Int32)), (0, .ref (q 1)), (1, .ref (q v1)), (2, .ref (q v2)), (3, .int v3), (4, .int v4), (5, .int v5)]) hx hb dX2_agreeing_20 hl (by decide) rfl (fun ls hl => ?_)
    exact w_X2_agreeing_22 g q X σ v1 v2 v5 kv1 kv2 rc10 hrc10 FU v3 v4 (0 : Int32) hD _ _ _ I (lv_sub hl [1, 2, 3, 4, 5, 6, 0] rfl)
def D_X2_agreeing_10 (σ : St) (v1 : Nat) (v2 : Nat) : Nat → Int32 → Int32 → Int32 → Option Int32
  | 0 => fun _ _ _ => none
  | n + 1 => fun v3 v4 v5 => D_X2_agreeing_10b σ (D_X2_agreeing_10 σ v1 v2 n) v1 v2 v3 v4 v5
set_option maxRecDepth 100000 in
set_option maxHeartbeats 4000000 in
theorem w_X2_agreeing_10 {p : Program} {l : Launch} {e : Env} {s : State} {m : MethodId} {args : Array Value} {below : List Frame} {meth : Method} {c : Code} (g : Gh) (q : Nat → Nat) (X : MX p s m args meth c cX2_agreeing 8 (some .int) RX2) {rr : Int32} (σ : St)  (v1 : Nat) (v2 : Nat) (kv1 : kRi v1) (kv2 : kRi v2) : ∀ (n : Nat) (v3 : Int32) (v4 : Int32) (v5 : Int32), D_X2_agreeing_10 σ v1 v2 n v3 v4 v5 = some rr → ∀ (H : Heap) (locs : List Loc) (ls : Array Slot), IC g q s σ H locs → lv_has ls 8 [(0, .ref (q 1)), (1, .ref (q v1)), (2, .ref (q v2)), (3, .int v3), (4, .int v4), (5, .int v5)] → W p l e (rmD 3) s m args below meth c H locs 0 0 (MQ below (QI g (eC g q) q 23 rr σ s.heap.size) args s 0 0 (AQ q 23 s.heap.size)) (F0 m 10 ls []) := by
  intro n
  induction n with
  | zero =>
    intro v3 v4 v5 hD H locs ls I hl
    cases hD
  | succ n ih =>
    intro v3 v4 v5 hD H locs ls I hl
    exact w_X2_agreeing_10b g q X σ v1 v2 v3 v4 v5 kv1 kv2 _ ih hD H locs ls I hl
def D_X2_agreeing (σ : St) (p1 : Nat) (p2 : Nat) : Option Int32 := D_X2_agreeing_10 σ p1 p2 FU (-9 : Int32) (11 : Int32) (0 : Int32)
set_option maxRecDepth 100000 in
set_option maxHeartbeats 4000000 in
theorem c_X2_agreeing (l : Launch) (g : Gh) (q : Nat → Nat) (sz : Nat) (σ : St) (p1 : Nat) (p2 : Nat) (kp1 : kRi p1) (kp2 : kRi p2) {rr : Int32} (hD : D_X2_agreeing σ p1 p2 = some rr) : Met l yX2_agreeing (wU yX2_agreeing cX2_agreeing 8 (some .int)) (rmD 3) (PQ g (eC g q) q 23 σ sz [.ref (q 1), .ref (q p1), .ref (q p2)]) (QI g (eC g q) q 23 rr σ sz) 0 0 (AQ q 23 sz) := by
  refine met_of (Qc := QI g (eC g q) q 23 rr σ) (by decide) (Nat.le_of_ble_eq_true rfl) ?_
  intro p e s m below meth c ls X I hl
  have hx := X.1
  have hb := X.2.1
  have hl : lv_has ls 8 [(0, .ref (q 1)), (1, .ref (q p1)), (2, .ref (q p2))] := hl
  unfold D_X2_agreeing at hD
  refine lv_bipush (v := -9) hx hb dX2_agreeing_0 (by decide) ?_
  refine lv_istore_n (lv' := [(3, .int (-9 : Int32)), (0, .ref (q 1)), (1, .ref (q p1)), (2, .ref (q p2))]) hx hb dX2_agreeing_2 rfl hl (by decide) rfl (fun ls hl => ?_)
  refine lv_bipush (v := 11) hx hb dX2_agreeing_3 (by decide) ?_
  refine lv_istore (lv' := [(4, .int (11 : Int32)), (3, .int (-9 : Int32)), (0, .ref (q 1)), (1, .ref (q p1)), (2, .ref (q p2))]) hx hb dX2_agreeing_5 hl (by decide) rfl (fun ls hl => ?_)
  refine lv_iconst (v := 0) hx hb dX2_agreeing_7 (by decide) ?_
  refine lv_istore (lv' := [(5, .int (0 : Int32)), (4, .int (11 : Int32)), (3, .int (-9 : Int32)), (0, .ref (q 1)), (1, .ref (q p1)), (2, .ref (q p2))]) hx hb dX2_agreeing_8 hl (by decide) rfl (fun ls hl => ?_)
  exact w_X2_agreeing_10 g q X σ p1 p2 kp1 kp2 FU (-9 : Int32) (11 : Int32) (0 : Int32) hD _ _ _ I (lv_sub hl [3, 4, 5, 2, 1, 0] rfl)

/-! YearDeck$Ride.firstOf(I)I -/
def D_X2_firstOf (σ : St) (p0 : Int32) : Option Int32 := some (p0 >>> ((5 : Int32) &&& 31))
set_option maxRecDepth 100000 in
set_option maxHeartbeats 4000000 in
theorem c_X2_firstOf (l : Launch) (g : Gh) (q : Nat → Nat) (sz : Nat) (σ : St) (p0 : Int32) {rr : Int32} (hD : D_X2_firstOf σ p0 = some rr) : Met l yX2_firstOf (wU yX2_firstOf cX2_firstOf 1 (some .int)) (rmD 0) (PQ g (eC g q) q 23 σ sz [.int p0]) (QI g (eC g q) q 23 rr σ sz) 0 0 (AQ q 23 sz) := by
  refine met_of (Qc := QI g (eC g q) q 23 rr σ) (by decide) (Nat.le_of_ble_eq_true rfl) ?_
  intro p e s m below meth c ls X I hl
  have hx := X.1
  have hb := X.2.1
  have hl : lv_has ls 1 [(0, .int p0)] := hl
  unfold D_X2_firstOf at hD
  refine lv_iload_n hx hb dX2_firstOf_0 rfl (lv_at hl 0 rfl) ?_
  refine lv_iconst (v := 5) hx hb dX2_firstOf_1 (by decide) ?_
  refine lv_ishr hx hb dX2_firstOf_2 ?_
  exact r_iret X I hD dX2_firstOf_3

/-! YearDeck$Ride.otherOf(I)I -/
def D_X2_otherOf (σ : St) (p0 : Int32) : Option Int32 := some (p0 &&& (31 : Int32))
set_option maxRecDepth 100000 in
set_option maxHeartbeats 4000000 in
theorem c_X2_otherOf (l : Launch) (g : Gh) (q : Nat → Nat) (sz : Nat) (σ : St) (p0 : Int32) {rr : Int32} (hD : D_X2_otherOf σ p0 = some rr) : Met l yX2_otherOf (wU yX2_otherOf cX2_otherOf 1 (some .int)) (rmD 0) (PQ g (eC g q) q 23 σ sz [.int p0]) (QI g (eC g q) q 23 rr σ sz) 0 0 (AQ q 23 sz) := by
  refine met_of (Qc := QI g (eC g q) q 23 rr σ) (by decide) (Nat.le_of_ble_eq_true rfl) ?_
  intro p e s m below meth c ls X I hl
  have hx := X.1
  have hb := X.2.1
  have hl : lv_has ls 1 [(0, .int p0)] := hl
  unfold D_X2_otherOf at hD
  refine lv_iload_n hx hb dX2_otherOf_0 rfl (lv_at hl 0 rfl) ?_
  refine lv_bipush (v := 31) hx hb dX2_otherOf_1 (by decide) ?_
  refine lv_iand hx hb dX2_otherOf_3 ?_
  exact r_iret X I hD dX2_otherOf_4

/-! YearDeck$Ride.setsToBeRight(LYearDeck$Rider;)I -/
def D_X2_setsToBeRight_35 (σ : St) (rc4 : Int32 → Int32 → Option Int32) (v1 : Nat) (v2 : Int32) (v3 : Int32) : Option Int32 := rc4 v2 (v3 + (1 : Int32))
set_option maxRecDepth 100000 in
set_option maxHeartbeats 4000000 in
theorem w_X2_setsToBeRight_35 {p : Program} {l : Launch} {e : Env} {s : State} {m : MethodId} {args : Array Value} {below : List Frame} {meth : Method} {c : Code} (g : Gh) (q : Nat → Nat) (X : MX p s m args meth c cX2_setsToBeRight 4 (some .int) RX2) {rr : Int32} (σ : St)  (v1 : Nat) (v2 : Int32) (v3 : Int32) (kv1 : kRi v1) (rc4 : Int32 → Int32 → Option Int32) (hrc4 : ∀ (v2' : Int32) (v3' : Int32), rc4 v2' v3' = some rr → ∀ (H : Heap) (locs : List Loc) (ls : Array Slot), IC g q s σ H locs → lv_has ls 4 [(0, .ref (q 1)), (1, .ref (q v1)), (2, .int v2'), (3, .int v3')] → W p l e (rmD 3) s m args below meth c H locs 0 0 (MQ below (QI g (eC g q) q 23 rr σ s.heap.size) args s 0 0 (AQ q 23 s.heap.size)) (F0 m 4 ls [])) (hD : D_X2_setsToBeRight_35 σ rc4 v1 v2 v3 = some rr) (H : Heap) (locs : List Loc) (ls : Array Slot) (I : IC g q s σ H locs) (hl : lv_has ls 4 [(0, .ref (q 1)), (1, .ref (q v1)), (2, .int v2), (3, .int v3)]) : W p l e (rmD 3) s m args below meth c H locs 0 0 (MQ below (QI g (eC g q) q 23 rr σ s.heap.size) args s 0 0 (AQ q 23 s.heap.size)) (F0 m 35 ls []) := by
  have hx := X.1
  have hb := X.2.1
  unfold D_X2_setsToBeRight_35 at hD
  refine lv_iinc (v := v3 + (1 : Int32)) (lv' := [(3, .int (v3 + (1 : Int32))), (0, .ref (q 1)), (1, .ref (q v1)), (2, .int v2)]) hx hb dX2_setsToBeRight_35 hl (k := 3) rfl rfl (by decide) rfl (fun ls hl => ?_)
  refine lv_goto (tgt := 4) hx hb dX2_setsToBeRight_38 (by decide) ?_
  exact hrc4 v2 (v3 + (1 : Int32)) hD _ _ _ I (lv_sub hl [1, 2, 3, 0] rfl)
def D_X2_setsToBeRight_4b (σ : St) (rc4 : Int32 → Int32 → Option Int32) (v1 : Nat) (v2 : Int32) (v3 : Int32) : Option Int32 := (D_X4_own σ v1).bind fun y7 => if y7 < v3 then some v2 else (D_X4_owns σ v1 v3).bind fun y13 => if y13 = 0 then D_X2_setsToBeRight_35 σ rc4 v1 v2 v3 else (D_X2_isRight σ v1 v3).bind fun y18 => if y18 = 0 then D_X2_setsToBeRight_35 σ rc4 v1 v2 v3 else D_X2_setsToBeRight_35 σ rc4 v1 (v2 ||| ((1 : Int32) <<< (v3 &&& 31))) v3
set_option maxRecDepth 100000 in
set_option maxHeartbeats 4000000 in
theorem w_X2_setsToBeRight_4b {p : Program} {l : Launch} {e : Env} {s : State} {m : MethodId} {args : Array Value} {below : List Frame} {meth : Method} {c : Code} (g : Gh) (q : Nat → Nat) (X : MX p s m args meth c cX2_setsToBeRight 4 (some .int) RX2) {rr : Int32} (σ : St)  (v1 : Nat) (v2 : Int32) (v3 : Int32) (kv1 : kRi v1) (rc4 : Int32 → Int32 → Option Int32) (hrc4 : ∀ (v2' : Int32) (v3' : Int32), rc4 v2' v3' = some rr → ∀ (H : Heap) (locs : List Loc) (ls : Array Slot), IC g q s σ H locs → lv_has ls 4 [(0, .ref (q 1)), (1, .ref (q v1)), (2, .int v2'), (3, .int v3')] → W p l e (rmD 3) s m args below meth c H locs 0 0 (MQ below (QI g (eC g q) q 23 rr σ s.heap.size) args s 0 0 (AQ q 23 s.heap.size)) (F0 m 4 ls [])) (hD : D_X2_setsToBeRight_4b σ rc4 v1 v2 v3 = some rr) (H : Heap) (locs : List Loc) (ls : Array Slot) (I : IC g q s σ H locs) (hl : lv_has ls 4 [(0, .ref (q 1)), (1, .ref (q v1)), (2, .int v2), (3, .int v3)]) : W p l e (rmD 3) s m args below meth c H locs 0 0 (MQ below (QI g (eC g q) q 23 rr σ s.heap.size) args s 0 0 (AQ q 23 s.heap.size)) (F0 m 4 ls []) := by
  have hx := X.1
  have hb := X.2.1
  unfold D_X2_setsToBeRight_4b at hD
  refine lv_iload_n hx hb dX2_setsToBeRight_4 rfl (lv_at hl 3 rfl) ?_
  refine lv_aload_n hx hb dX2_setsToBeRight_5 rfl (lv_at hl 1 rfl) ?_
  obtain ⟨y7, hy7, hD⟩ := bd_s hD
  refine r_calli (r_runV (As := []) (rest := [.int v3]) X I (c_X4_own l g q _ σ v1 kv1 hy7) kv_X4_own ml_X2_82 rfl (kRi_lt kv1) (eC_Rider g q _ kv1) ⟨Nat.le_of_ble_eq_true rfl, Nat.le_of_ble_eq_true rfl⟩ ⟨Nat.zero_le _, Nat.zero_le _⟩ rfl rfl hl.1 (Nat.le_of_ble_eq_true rfl) dX2_setsToBeRight_6) I (fun H locs I => ?_)
  refine lv_icmp_gt (tgt := 41) hx hb dX2_setsToBeRight_9 (by decide) (fun hc8 => ?_) (fun hc8 => ?_)
  · have hD := ite_p hc8 hD
    refine lv_iload_n hx hb dX2_setsToBeRight_41 rfl (lv_at hl 2 rfl) ?_
    exact r_iret X I hD dX2_setsToBeRight_42
  · have hD := ite_n hc8 hD
    refine lv_aload_n hx hb dX2_setsToBeRight_12 rfl (lv_at hl 1 rfl) ?_
    refine lv_iload_n hx hb dX2_setsToBeRight_13 rfl (lv_at hl 3 rfl) ?_
    obtain ⟨y13, hy13, hD⟩ := bd_s hD
    refine r_calli (r_runV (As := [.int v3]) (rest := []) X I (c_X4_owns l g q _ σ v1 v3 kv1 hy13) kv_X4_owns ml_X2_73 rfl (kRi_lt kv1) (eC_Rider g q _ kv1) ⟨Nat.le_of_ble_eq_true rfl, Nat.le_of_ble_eq_true rfl⟩ ⟨Nat.zero_le _, Nat.zero_le _⟩ rfl rfl hl.1 (Nat.le_of_ble_eq_true rfl) dX2_setsToBeRight_14) I (fun H locs I => ?_)
    refine lv_if_eq (tgt := 35) hx hb dX2_setsToBeRight_17 (by decide) (fun hc14 => ?_) (fun hc14 => ?_)
    · have hD := ite_p hc14 hD
      exact w_X2_setsToBeRight_35 g q X σ v1 v2 v3 kv1 rc4 hrc4 hD _ _ _ I (lv_sub hl [0, 1, 2, 3] rfl)
    · have hD := ite_n hc14 hD
      refine lv_aload_n hx hb dX2_setsToBeRight_20 rfl (lv_at hl 0 rfl) ?_
      refine lv_aload_n hx hb dX2_setsToBeRight_21 rfl (lv_at hl 1 rfl) ?_
      refine lv_iload_n hx hb dX2_setsToBeRight_22 rfl (lv_at hl 3 rfl) ?_
      obtain ⟨y18, hy18, hD⟩ := bd_s hD
      refine r_calli (r_runV (As := [.ref (q v1), .int v3]) (rest := []) X I (c_X2_isRight l g q _ σ v1 v3 kv1 hy18) kv_X2_isRight ml_X2_109 rfl (by decide) (eC_Ride g q _) ⟨Nat.le_of_ble_eq_true rfl, Nat.le_of_ble_eq_true rfl⟩ ⟨Nat.zero_le _, Nat.zero_le _⟩ rfl rfl hl.1 (Nat.le_of_ble_eq_true rfl) dX2_setsToBeRight_23) I (fun H locs I => ?_)
      refine lv_if_eq (tgt := 35) hx hb dX2_setsToBeRight_26 (by decide) (fun hc19 => ?_) (fun hc19 => ?_)
      · have hD := ite_p hc19 hD
        exact w_X2_setsToBeRight_35 g q X σ v1 v2 v3 kv1 rc4 hrc4 hD _ _ _ I (lv_sub hl [0, 1, 2, 3] rfl)
      · have hD := ite_n hc19 hD
        refine lv_iload_n hx hb dX2_setsToBeRight_29 rfl (lv_at hl 2 rfl) ?_
        refine lv_iconst (v := 1) hx hb dX2_setsToBeRight_30 (by decide) ?_
        refine lv_iload_n hx hb dX2_setsToBeRight_31 rfl (lv_at hl 3 rfl) ?_
        refine lv_ishl hx hb dX2_setsToBeRight_32 ?_
        refine lv_ior hx hb dX2_setsToBeRight_33 ?_
        refine lv_istore_n (lv' := [(2, .int (v2 ||| ((1 : Int32) <<< (v3 &&& 31)))), (0, .ref (q 1)), (1, .ref (q v1)), (3, .int v3)]) hx hb dX2_setsToBeRight_34 rfl hl (by decide) rfl (fun ls hl => ?_)
        exact w_X2_setsToBeRight_35 g q X σ v1 (v2 ||| ((1 : Int32) <<< (v3 &&& 31))) v3 kv1 rc4 hrc4 hD _ _ _ I (lv_sub hl [1, 2, 0, 3] rfl)
def D_X2_setsToBeRight_4 (σ : St) (v1 : Nat) : Nat → Int32 → Int32 → Option Int32
  | 0 => fun _ _ => none
  | n + 1 => fun v2 v3 => D_X2_setsToBeRight_4b σ (D_X2_setsToBeRight_4 σ v1 n) v1 v2 v3
set_option maxRecDepth 100000 in
set_option maxHeartbeats 4000000 in
theorem w_X2_setsToBeRight_4 {p : Program} {l : Launch} {e : Env} {s : State} {m : MethodId} {args : Array Value} {below : List Frame} {meth : Method} {c : Code} (g : Gh) (q : Nat → Nat) (X : MX p s m args meth c cX2_setsToBeRight 4 (some .int) RX2) {rr : Int32} (σ : St)  (v1 : Nat) (kv1 : kRi v1) : ∀ (n : Nat) (v2 : Int32) (v3 : Int32), D_X2_setsToBeRight_4 σ v1 n v2 v3 = some rr → ∀ (H : Heap) (locs : List Loc) (ls : Array Slot), IC g q s σ H locs → lv_has ls 4 [(0, .ref (q 1)), (1, .ref (q v1)), (2, .int v2), (3, .int v3)] → W p l e (rmD 3) s m args below meth c H locs 0 0 (MQ below (QI g (eC g q) q 23 rr σ s.heap.size) args s 0 0 (AQ q 23 s.heap.size)) (F0 m 4 ls []) := by
  intro n
  induction n with
  | zero =>
    intro v2 v3 hD H locs ls I hl
    cases hD
  | succ n ih =>
    intro v2 v3 hD H locs ls I hl
    exact w_X2_setsToBeRight_4b g q X σ v1 v2 v3 kv1 _ ih hD H locs ls I hl
def D_X2_setsToBeRight (σ : St) (p1 : Nat) : Option Int32 := D_X2_setsToBeRight_4 σ p1 FU (0 : Int32) (0 : Int32)
set_option maxRecDepth 100000 in
set_option maxHeartbeats 4000000 in
theorem c_X2_setsToBeRight (l : Launch) (g : Gh) (q : Nat → Nat) (sz : Nat) (σ : St) (p1 : Nat) (kp1 : kRi p1) {rr : Int32} (hD : D_X2_setsToBeRight σ p1 = some rr) : Met l yX2_setsToBeRight (wU yX2_setsToBeRight cX2_setsToBeRight 4 (some .int)) (rmD 3) (PQ g (eC g q) q 23 σ sz [.ref (q 1), .ref (q p1)]) (QI g (eC g q) q 23 rr σ sz) 0 0 (AQ q 23 sz) := by
  refine met_of (Qc := QI g (eC g q) q 23 rr σ) (by decide) (Nat.le_of_ble_eq_true rfl) ?_
  intro p e s m below meth c ls X I hl
  have hx := X.1
  have hb := X.2.1
  have hl : lv_has ls 4 [(0, .ref (q 1)), (1, .ref (q p1))] := hl
  unfold D_X2_setsToBeRight at hD
  refine lv_iconst (v := 0) hx hb dX2_setsToBeRight_0 (by decide) ?_
  refine lv_istore_n (lv' := [(2, .int (0 : Int32)), (0, .ref (q 1)), (1, .ref (q p1))]) hx hb dX2_setsToBeRight_1 rfl hl (by decide) rfl (fun ls hl => ?_)
  refine lv_iconst (v := 0) hx hb dX2_setsToBeRight_2 (by decide) ?_
  refine lv_istore_n (lv' := [(3, .int (0 : Int32)), (2, .int (0 : Int32)), (0, .ref (q 1)), (1, .ref (q p1))]) hx hb dX2_setsToBeRight_3 rfl hl (by decide) rfl (fun ls hl => ?_)
  exact w_X2_setsToBeRight_4 g q X σ p1 kp1 FU (0 : Int32) (0 : Int32) hD _ _ _ I (lv_sub hl [2, 3, 1, 0] rfl)

/-! YearDeck$Ride.canAllBeRight(III)Z -/
def D_X2_canAllBeRight_95 (rf : Int32 → Int32 → Int32 → Option Int32) (σ : St) (rc31 : Int32 → Option Int32) (v1 : Int32) (v2 : Int32) (v3 : Int32) (v4 : Int32) : Option Int32 := rc31 (v4 + (1 : Int32))
set_option maxRecDepth 100000 in
set_option maxHeartbeats 4000000 in
theorem w_X2_canAllBeRight_95 {p : Program} {l : Launch} {e : Env} {s : State} {m : MethodId} {args : Array Value} {below : List Frame} {meth : Method} {c : Code} (g : Gh) (q : Nat → Nat) (X : MX p s m args meth c cX2_canAllBeRight 6 (some .boolean) RX2) {rr : Int32} (σ : St) {d : Nat} (rf : Int32 → Int32 → Int32 → Option Int32) (hrf : ∀ (sz : Nat) (a1 a2 a3 : Int32) {r1 : Int32}, rf a1 a2 a3 = some r1 → Met l yX2_canAllBeRight (wU yX2_canAllBeRight cX2_canAllBeRight 6 (some .boolean)) (rmD (d + 2)) (PQ g (eC g q) q 23 σ sz [.ref (q 1), .int a1, .int a2, .int a3]) (QI g (eC g q) q 23 r1 σ sz) 0 0 (AQ q 23 sz))  (v1 : Int32) (v2 : Int32) (v3 : Int32) (v4 : Int32) (rc31 : Int32 → Option Int32) (hrc31 : ∀ (v4' : Int32), rc31 v4' = some rr → ∀ (H : Heap) (locs : List Loc) (ls : Array Slot), IC g q s σ H locs → lv_has ls 6 [(0, .ref (q 1)), (1, .int v1), (2, .int v2), (3, .int v3), (4, .int v4')] → W p l e (rmD (d + 3)) s m args below meth c H locs 0 0 (MQ below (QI g (eC g q) q 23 rr σ s.heap.size) args s 0 0 (AQ q 23 s.heap.size)) (F0 m 31 ls [])) (hD : D_X2_canAllBeRight_95 rf σ rc31 v1 v2 v3 v4 = some rr) (H : Heap) (locs : List Loc) (ls : Array Slot) (I : IC g q s σ H locs) (hl : lv_has ls 6 [(0, .ref (q 1)), (1, .int v1), (2, .int v2), (3, .int v3), (4, .int v4)]) : W p l e (rmD (d + 3)) s m args below meth c H locs 0 0 (MQ below (QI g (eC g q) q 23 rr σ s.heap.size) args s 0 0 (AQ q 23 s.heap.size)) (F0 m 95 ls []) := by
  have hx := X.1
  have hb := X.2.1
  unfold D_X2_canAllBeRight_95 at hD
  refine lv_iinc (v := v4 + (1 : Int32)) (lv' := [(4, .int (v4 + (1 : Int32))), (0, .ref (q 1)), (1, .int v1), (2, .int v2), (3, .int v3)]) hx hb dX2_canAllBeRight_95 hl (k := 4) rfl rfl (by decide) rfl (fun ls hl => ?_)
  refine lv_goto (tgt := 31) hx hb dX2_canAllBeRight_98 (by decide) ?_
  exact hrc31 (v4 + (1 : Int32)) hD _ _ _ I (lv_sub hl [1, 2, 3, 4, 0] rfl)
def D_X2_canAllBeRight_31b (rf : Int32 → Int32 → Int32 → Option Int32) (σ : St) (rc31 : Int32 → Option Int32) (v1 : Int32) (v2 : Int32) (v3 : Int32) (v4 : Int32) : Option Int32 := gd (inb v2 4) ((D_X4_own σ (5 + v2.toNatClampNeg)).bind fun y28 => if y28 < v4 then some (0 : Int32) else gd (inb v2 4) (if (((σ 4 v2.toNatClampNeg) >>> (v4 &&& 31)) &&& (1 : Int32)) = (1 : Int32) then (D_X0_of σ v4).bind fun y44 => (D_X2_firstOver σ (v3 + y44)).bind fun y49 => if y49 = (-9 : Int32) then (rf v1 (v2 + (1 : Int32)) (v3 + y44)).bind fun y58 => if y58 = 0 then D_X2_canAllBeRight_95 rf σ rc31 v1 v2 v3 v4 else some (1 : Int32) else D_X2_canAllBeRight_95 rf σ rc31 v1 v2 v3 v4 else D_X2_canAllBeRight_95 rf σ rc31 v1 v2 v3 v4))
set_option maxRecDepth 100000 in
set_option maxHeartbeats 4000000 in
theorem w_X2_canAllBeRight_31b {p : Program} {l : Launch} {e : Env} {s : State} {m : MethodId} {args : Array Value} {below : List Frame} {meth : Method} {c : Code} (g : Gh) (q : Nat → Nat) (X : MX p s m args meth c cX2_canAllBeRight 6 (some .boolean) RX2) {rr : Int32} (σ : St) {d : Nat} (rf : Int32 → Int32 → Int32 → Option Int32) (hrf : ∀ (sz : Nat) (a1 a2 a3 : Int32) {r1 : Int32}, rf a1 a2 a3 = some r1 → Met l yX2_canAllBeRight (wU yX2_canAllBeRight cX2_canAllBeRight 6 (some .boolean)) (rmD (d + 2)) (PQ g (eC g q) q 23 σ sz [.ref (q 1), .int a1, .int a2, .int a3]) (QI g (eC g q) q 23 r1 σ sz) 0 0 (AQ q 23 sz))  (v1 : Int32) (v2 : Int32) (v3 : Int32) (v4 : Int32) (rc31 : Int32 → Option Int32) (hrc31 : ∀ (v4' : Int32), rc31 v4' = some rr → ∀ (H : Heap) (locs : List Loc) (ls : Array Slot), IC g q s σ H locs → lv_has ls 6 [(0, .ref (q 1)), (1, .int v1), (2, .int v2), (3, .int v3), (4, .int v4')] → W p l e (rmD (d + 3)) s m args below meth c H locs 0 0 (MQ below (QI g (eC g q) q 23 rr σ s.heap.size) args s 0 0 (AQ q 23 s.heap.size)) (F0 m 31 ls [])) (hD : D_X2_canAllBeRight_31b rf σ rc31 v1 v2 v3 v4 = some rr) (H : Heap) (locs : List Loc) (ls : Array Slot) (I : IC g q s σ H locs) (hl : lv_has ls 6 [(0, .ref (q 1)), (1, .int v1), (2, .int v2), (3, .int v3), (4, .int v4)]) : W p l e (rmD (d + 3)) s m args below meth c H locs 0 0 (MQ below (QI g (eC g q) q 23 rr σ s.heap.size) args s 0 0 (AQ q 23 s.heap.size)) (F0 m 31 ls []) := by
  have hx := X.1
  have hb := X.2.1
  unfold D_X2_canAllBeRight_31b at hD
  refine lv_iload hx hb dX2_canAllBeRight_31 (lv_at hl 4 rfl) ?_
  refine lv_aload_n hx hb dX2_canAllBeRight_33 rfl (lv_at hl 0 rfl) ?_
  refine g_Ride_riders X I fl_X2_17 dX2_canAllBeRight_34 ?_
  refine lv_iload_n hx hb dX2_canAllBeRight_37 rfl (lv_at hl 2 rfl) ?_
  obtain ⟨hg27, hD⟩ := gd_s hD
  refine r_aald (t0 := 2) X I (by decide) rfl (eCr_3 g q _) hg27 dX2_canAllBeRight_38 ?_
  obtain ⟨y28, hy28, hD⟩ := bd_s hD
  refine r_calli (r_runV (As := []) (rest := [.int v4]) X I (c_X4_own l g q _ σ (5 + v2.toNatClampNeg) (kRi_of hg27) hy28) kv_X4_own ml_X2_82 rfl (kRi_lt (kRi_of hg27)) (eC_Rider g q _ (kRi_of hg27)) (rm_le (by decide) (by decide)) ⟨Nat.zero_le _, Nat.zero_le _⟩ rfl rfl hl.1 (Nat.le_of_ble_eq_true rfl) dX2_canAllBeRight_39) I (fun H locs I => ?_)
  refine lv_icmp_gt (tgt := 101) hx hb dX2_canAllBeRight_42 (by decide) (fun hc29 => ?_) (fun hc29 => ?_)
  · have hD := ite_p hc29 hD
    refine lv_iconst (v := 0) hx hb dX2_canAllBeRight_101 (by decide) ?_
    exact r_zret X I hD rfl dX2_canAllBeRight_102
  · have hD := ite_n hc29 hD
    refine lv_aload_n hx hb dX2_canAllBeRight_45 rfl (lv_at hl 0 rfl) ?_
    refine g_Ride_rightSets X I fl_X2_21 dX2_canAllBeRight_46 ?_
    refine lv_iload_n hx hb dX2_canAllBeRight_49 rfl (lv_at hl 2 rfl) ?_
    obtain ⟨hg35, hD⟩ := gd_s hD
    refine r_iald X I (by decide) ((eCa_4 g q) _) hg35 dX2_canAllBeRight_50 ?_
    refine lv_iload hx hb dX2_canAllBeRight_51 (lv_at hl 4 rfl) ?_
    refine lv_ishr hx hb dX2_canAllBeRight_53 ?_
    refine lv_iconst (v := 1) hx hb dX2_canAllBeRight_54 (by decide) ?_
    refine lv_iand hx hb dX2_canAllBeRight_55 ?_
    refine lv_iconst (v := 1) hx hb dX2_canAllBeRight_56 (by decide) ?_
    refine lv_icmp_ne (tgt := 95) hx hb dX2_canAllBeRight_57 (by decide) (fun hc41 => ?_) (fun hc41 => ?_)
    · have hD := ite_n hc41 hD
      exact w_X2_canAllBeRight_95 g q X σ rf hrf v1 v2 v3 v4 rc31 hrc31 hD _ _ _ I (lv_sub hl [0, 1, 2, 3, 4] rfl)
    · have hD := ite_p hc41 hD
      refine lv_iload_n hx hb dX2_canAllBeRight_60 rfl (lv_at hl 3 rfl) ?_
      refine lv_iload hx hb dX2_canAllBeRight_61 (lv_at hl 4 rfl) ?_
      obtain ⟨y44, hy44, hD⟩ := bd_s hD
      refine r_calli (r_runS (As := [.int v4]) (rest := [.int v3]) X I (c_X0_of l g q _ σ v4 hy44) ks_X0_of ml_X2_95 (rm_le (by decide) (by decide)) ⟨Nat.zero_le _, Nat.zero_le _⟩ rfl rfl hl.1 (Nat.le_of_ble_eq_true rfl) dX2_canAllBeRight_63) I (fun H locs I => ?_)
      refine lv_iadd hx hb dX2_canAllBeRight_66 ?_
      refine lv_istore (lv' := [(5, .int (v3 + y44)), (0, .ref (q 1)), (1, .int v1), (2, .int v2), (3, .int v3), (4, .int v4)]) hx hb dX2_canAllBeRight_67 hl (by decide) rfl (fun ls hl => ?_)
      refine lv_aload_n hx hb dX2_canAllBeRight_69 rfl (lv_at hl 1 rfl) ?_
      refine lv_iload hx hb dX2_canAllBeRight_70 (lv_at hl 0 rfl) ?_
      obtain ⟨y49, hy49, hD⟩ := bd_s hD
      refine r_calli (r_runV (As := [.int (v3 + y44)]) (rest := []) X I (c_X2_firstOver l g q _ σ (v3 + y44) hy49) kv_X2_firstOver ml_X2_98 rfl (by decide) (eC_Ride g q _) (rm_le (by decide) (by decide)) ⟨Nat.zero_le _, Nat.zero_le _⟩ rfl rfl hl.1 (Nat.le_of_ble_eq_true rfl) dX2_canAllBeRight_72) I (fun H locs I => ?_)
      refine lv_bipush (v := -9) hx hb dX2_canAllBeRight_75 (by decide) ?_
      refine lv_icmp_ne (tgt := 95) hx hb dX2_canAllBeRight_77 (by decide) (fun hc51 => ?_) (fun hc51 => ?_)
      · have hD := ite_n hc51 hD
        exact w_X2_canAllBeRight_95 g q X σ rf hrf v1 v2 v3 v4 rc31 hrc31 hD _ _ _ I (lv_sub hl [1, 2, 3, 4, 5] rfl)
      · have hD := ite_p hc51 hD
        refine lv_aload_n hx hb dX2_canAllBeRight_80 rfl (lv_at hl 1 rfl) ?_
        refine lv_iload_n hx hb dX2_canAllBeRight_81 rfl (lv_at hl 2 rfl) ?_
        refine lv_iload_n hx hb dX2_canAllBeRight_82 rfl (lv_at hl 3 rfl) ?_
        refine lv_iconst (v := 1) hx hb dX2_canAllBeRight_83 (by decide) ?_
        refine lv_iadd hx hb dX2_canAllBeRight_84 ?_
        refine lv_iload hx hb dX2_canAllBeRight_85 (lv_at hl 0 rfl) ?_
        obtain ⟨y58, hy58, hD⟩ := bd_s hD
        refine r_calli (r_runV (As := [.int v1, .int (v2 + (1 : Int32)), .int (v3 + y44)]) (rest := []) X I (hrf _ v1 (v2 + (1 : Int32)) (v3 + y44) hy58) kv_X2_canAllBeRight ml_X2_105 rfl (by decide) (eC_Ride g q _) roomR ⟨Nat.zero_le _, Nat.zero_le _⟩ rfl rfl hl.1 (Nat.le_of_ble_eq_true rfl) dX2_canAllBeRight_87) I (fun H locs I => ?_)
        refine lv_if_eq (tgt := 95) hx hb dX2_canAllBeRight_90 (by decide) (fun hc59 => ?_) (fun hc59 => ?_)
        · have hD := ite_p hc59 hD
          exact w_X2_canAllBeRight_95 g q X σ rf hrf v1 v2 v3 v4 rc31 hrc31 hD _ _ _ I (lv_sub hl [1, 2, 3, 4, 5] rfl)
        · have hD := ite_n hc59 hD
          refine lv_iconst (v := 1) hx hb dX2_canAllBeRight_93 (by decide) ?_
          exact r_zret X I hD rfl dX2_canAllBeRight_94
def D_X2_canAllBeRight_31 (rf : Int32 → Int32 → Int32 → Option Int32) (σ : St) (v1 : Int32) (v2 : Int32) (v3 : Int32) : Nat → Int32 → Option Int32
  | 0 => fun _ => none
  | n + 1 => fun v4 => D_X2_canAllBeRight_31b rf σ (D_X2_canAllBeRight_31 rf σ v1 v2 v3 n) v1 v2 v3 v4
set_option maxRecDepth 100000 in
set_option maxHeartbeats 4000000 in
theorem w_X2_canAllBeRight_31 {p : Program} {l : Launch} {e : Env} {s : State} {m : MethodId} {args : Array Value} {below : List Frame} {meth : Method} {c : Code} (g : Gh) (q : Nat → Nat) (X : MX p s m args meth c cX2_canAllBeRight 6 (some .boolean) RX2) {rr : Int32} (σ : St) {d : Nat} (rf : Int32 → Int32 → Int32 → Option Int32) (hrf : ∀ (sz : Nat) (a1 a2 a3 : Int32) {r1 : Int32}, rf a1 a2 a3 = some r1 → Met l yX2_canAllBeRight (wU yX2_canAllBeRight cX2_canAllBeRight 6 (some .boolean)) (rmD (d + 2)) (PQ g (eC g q) q 23 σ sz [.ref (q 1), .int a1, .int a2, .int a3]) (QI g (eC g q) q 23 r1 σ sz) 0 0 (AQ q 23 sz))  (v1 : Int32) (v2 : Int32) (v3 : Int32) : ∀ (n : Nat) (v4 : Int32), D_X2_canAllBeRight_31 rf σ v1 v2 v3 n v4 = some rr → ∀ (H : Heap) (locs : List Loc) (ls : Array Slot), IC g q s σ H locs → lv_has ls 6 [(0, .ref (q 1)), (1, .int v1), (2, .int v2), (3, .int v3), (4, .int v4)] → W p l e (rmD (d + 3)) s m args below meth c H locs 0 0 (MQ below (QI g (eC g q) q 23 rr σ s.heap.size) args s 0 0 (AQ q 23 s.heap.size)) (F0 m 31 ls []) := by
  intro n
  induction n with
  | zero =>
    intro v4 hD H locs ls I hl
    cases hD
  | succ n ih =>
    intro v4 hD H locs ls I hl
    exact w_X2_canAllBeRight_31b g q X σ rf hrf v1 v2 v3 v4 _ ih hD H locs ls I hl
def D_X2_canAllBeRight_e (rf : Int32 → Int32 → Int32 → Option Int32) (σ : St) (p1 : Int32) (p2 : Int32) (p3 : Int32) : Option Int32 := if p2 < (σ 1 5) then if ((p1 >>> (p2 &&& 31)) &&& (1 : Int32)) = 0 then (rf p1 (p2 + (1 : Int32)) p3).bind fun y19 => gd (isB y19) (some y19) else D_X2_canAllBeRight_31 rf σ p1 p2 p3 FU (0 : Int32) else some (1 : Int32)
set_option maxRecDepth 100000 in
set_option maxHeartbeats 4000000 in
theorem c_X2_canAllBeRight_e (l : Launch) (g : Gh) (q : Nat → Nat) (sz : Nat) (σ : St) {d : Nat} (rf : Int32 → Int32 → Int32 → Option Int32) (hrf : ∀ (sz : Nat) (a1 a2 a3 : Int32) {r1 : Int32}, rf a1 a2 a3 = some r1 → Met l yX2_canAllBeRight (wU yX2_canAllBeRight cX2_canAllBeRight 6 (some .boolean)) (rmD (d + 2)) (PQ g (eC g q) q 23 σ sz [.ref (q 1), .int a1, .int a2, .int a3]) (QI g (eC g q) q 23 r1 σ sz) 0 0 (AQ q 23 sz))  (p1 : Int32) (p2 : Int32) (p3 : Int32) {rr : Int32} (hD : D_X2_canAllBeRight_e rf σ p1 p2 p3 = some rr) : Met l yX2_canAllBeRight (wU yX2_canAllBeRight cX2_canAllBeRight 6 (some .boolean)) (rmD (d + 3)) (PQ g (eC g q) q 23 σ sz [.ref (q 1), .int p1, .int p2, .int p3]) (QI g (eC g q) q 23 rr σ sz) 0 0 (AQ q 23 sz) := by
  refine met_of (Qc := QI g (eC g q) q 23 rr σ) (by decide) (Nat.le_of_ble_eq_true rfl) ?_
  intro p e s m below meth c ls X I hl
  have hx := X.1
  have hb := X.2.1
  have hl : lv_has ls 6 [(0, .ref (q 1)), (1, .int p1), (2, .int p2), (3, .int p3)] := hl
  unfold D_X2_canAllBeRight_e at hD
  refine lv_iload_n hx hb dX2_canAllBeRight_0 rfl (lv_at hl 2 rfl) ?_
  refine lv_aload_n hx hb dX2_canAllBeRight_1 rfl (lv_at hl 0 rfl) ?_
  refine g_Ride_count X I fl_X2_31 dX2_canAllBeRight_2 ?_
  refine lv_icmp_lt (tgt := 10) hx hb dX2_canAllBeRight_5 (by decide) (fun hc4 => ?_) (fun hc4 => ?_)
  · have hD := ite_p hc4 hD
    refine lv_iload_n hx hb dX2_canAllBeRight_10 rfl (lv_at hl 1 rfl) ?_
    refine lv_iload_n hx hb dX2_canAllBeRight_11 rfl (lv_at hl 2 rfl) ?_
    refine lv_ishr hx hb dX2_canAllBeRight_12 ?_
    refine lv_iconst (v := 1) hx hb dX2_canAllBeRight_13 (by decide) ?_
    refine lv_iand hx hb dX2_canAllBeRight_14 ?_
    refine lv_if_ne (tgt := 28) hx hb dX2_canAllBeRight_15 (by decide) (fun hc10 => ?_) (fun hc10 => ?_)
    · have hD := ite_n hc10 hD
      refine lv_iconst (v := 0) hx hb dX2_canAllBeRight_28 (by decide) ?_
      refine lv_istore (lv' := [(4, .int (0 : Int32)), (0, .ref (q 1)), (1, .int p1), (2, .int p2), (3, .int p3)]) hx hb dX2_canAllBeRight_29 hl (by decide) rfl (fun ls hl => ?_)
      exact w_X2_canAllBeRight_31 g q X σ rf hrf p1 p2 p3 FU (0 : Int32) hD _ _ _ I (lv_sub hl [1, 2, 3, 4, 0] rfl)
    · have hD := ite_p hc10 hD
      refine lv_aload_n hx hb dX2_canAllBeRight_18 rfl (lv_at hl 0 rfl) ?_
      refine lv_iload_n hx hb dX2_canAllBeRight_19 rfl (lv_at hl 1 rfl) ?_
      refine lv_iload_n hx hb dX2_canAllBeRight_20 rfl (lv_at hl 2 rfl) ?_
      refine lv_iconst (v := 1) hx hb dX2_canAllBeRight_21 (by decide) ?_
      refine lv_iadd hx hb dX2_canAllBeRight_22 ?_
      refine lv_iload_n hx hb dX2_canAllBeRight_23 rfl (lv_at hl 3 rfl) ?_
      obtain ⟨y19, hy19, hD⟩ := bd_s hD
      refine r_calli (r_runV (As := [.int p1, .int (p2 + (1 : Int32)), .int p3]) (rest := []) X I (hrf _ p1 (p2 + (1 : Int32)) p3 hy19) kv_X2_canAllBeRight ml_X2_105 rfl (by decide) (eC_Ride g q _) roomR ⟨Nat.zero_le _, Nat.zero_le _⟩ rfl rfl hl.1 (Nat.le_of_ble_eq_true rfl) dX2_canAllBeRight_24) I (fun H locs I => ?_)
      obtain ⟨hg20, hD⟩ := gd_s hD
      exact r_zret X I hD hg20 dX2_canAllBeRight_27
  · have hD := ite_n hc4 hD
    refine lv_iconst (v := 1) hx hb dX2_canAllBeRight_8 (by decide) ?_
    exact r_zret X I hD rfl dX2_canAllBeRight_9
def D_X2_canAllBeRight : Nat → St → Int32 → Int32 → Int32 → Option Int32
  | 0 => fun _ _ _ _ => none
  | n + 1 => fun σ a b c => D_X2_canAllBeRight_e (D_X2_canAllBeRight n σ) σ a b c
theorem c_X2_canAllBeRight (l : Launch) (g : Gh) (q : Nat → Nat) (sz : Nat) : ∀ (n : Nat) (σ : St) (p1 p2 p3 : Int32) {rr : Int32}, D_X2_canAllBeRight n σ p1 p2 p3 = some rr → Met l yX2_canAllBeRight (wU yX2_canAllBeRight cX2_canAllBeRight 6 (some .boolean)) (rmD (n + 2)) (PQ g (eC g q) q 23 σ sz [.ref (q 1), .int p1, .int p2, .int p3]) (QI g (eC g q) q 23 rr σ sz) 0 0 (AQ q 23 sz) := by
  intro n
  induction n generalizing sz with
  | zero =>
    intro σ p1 p2 p3 rr hD
    cases hD
  | succ n ih =>
    intro σ p1 p2 p3 rr hD
    exact c_X2_canAllBeRight_e l g q sz σ (d := n) (D_X2_canAllBeRight n σ) (fun sz a1 a2 a3 r1 h => ih sz σ a1 a2 a3 h) p1 p2 p3 hD

/-! YearDeck$Ride.mostRight()I -/
def D_X2_mostRight_69 (σ : St) (rc36 : Int32 → Int32 → Option (Int32 × St)) (v1 : Int32) (v2 : Int32) : Option (Int32 × St) := rc36 v1 (v2 + (1 : Int32))
set_option maxRecDepth 100000 in
set_option maxHeartbeats 4000000 in
theorem w_X2_mostRight_69 {p : Program} {l : Launch} {e : Env} {s : State} {m : MethodId} {args : Array Value} {below : List Frame} {meth : Method} {c : Code} (g : Gh) (q : Nat → Nat) (X : MX p s m args meth c cX2_mostRight 3 (some .int) RX2) {rr : (Int32 × St)} (σ : St)  (v1 : Int32) (v2 : Int32) (rc36 : Int32 → Int32 → Option (Int32 × St)) (hrc36 : ∀ (v1' : Int32) (v2' : Int32), rc36 v1' v2' = some rr → ∀ (H : Heap) (locs : List Loc) (ls : Array Slot), IC g q s σ H locs → lv_has ls 3 [(0, .ref (q 1)), (1, .int v1'), (2, .int v2')] → W p l e (rmD 9) s m args below meth c H locs 0 0 (MQ below (QI g (eC g q) q 23 rr.1 rr.2 s.heap.size) args s 0 0 (AQ q 23 s.heap.size)) (F0 m 36 ls [])) (hD : D_X2_mostRight_69 σ rc36 v1 v2 = some rr) (H : Heap) (locs : List Loc) (ls : Array Slot) (I : IC g q s σ H locs) (hl : lv_has ls 3 [(0, .ref (q 1)), (1, .int v1), (2, .int v2)]) : W p l e (rmD 9) s m args below meth c H locs 0 0 (MQ below (QI g (eC g q) q 23 rr.1 rr.2 s.heap.size) args s 0 0 (AQ q 23 s.heap.size)) (F0 m 69 ls []) := by
  have hx := X.1
  have hb := X.2.1
  unfold D_X2_mostRight_69 at hD
  refine lv_iinc (v := v2 + (1 : Int32)) (lv' := [(2, .int (v2 + (1 : Int32))), (0, .ref (q 1)), (1, .int v1)]) hx hb dX2_mostRight_69 hl (k := 2) rfl rfl (by decide) rfl (fun ls hl => ?_)
  refine lv_goto (tgt := 36) hx hb dX2_mostRight_72 (by decide) ?_
  exact hrc36 v1 (v2 + (1 : Int32)) hD _ _ _ I (lv_sub hl [1, 2, 0] rfl)
def D_X2_mostRight_36b (σ : St) (rc36 : Int32 → Int32 → Option (Int32 × St)) (v1 : Int32) (v2 : Int32) : Option (Int32 × St) := if ((1 : Int32) <<< ((σ 1 5) &&& 31)) ≤ v2 then some (v1, σ) else (D_J6_bitCount_0f7a4 σ v2).bind fun y32 => (D_J6_bitCount_0f7a4 σ v1).bind fun y34 => if y32 ≤ y34 then D_X2_mostRight_69 σ rc36 v1 v2 else (D_X2_canAllBeRight 6 σ v2 (0 : Int32) (0 : Int32)).bind fun y40 => if y40 = 0 then D_X2_mostRight_69 σ rc36 v1 v2 else D_X2_mostRight_69 σ rc36 v2 v2
set_option maxRecDepth 100000 in
set_option maxHeartbeats 4000000 in
theorem w_X2_mostRight_36b {p : Program} {l : Launch} {e : Env} {s : State} {m : MethodId} {args : Array Value} {below : List Frame} {meth : Method} {c : Code} (g : Gh) (q : Nat → Nat) (X : MX p s m args meth c cX2_mostRight 3 (some .int) RX2) {rr : (Int32 × St)} (σ : St)  (v1 : Int32) (v2 : Int32) (rc36 : Int32 → Int32 → Option (Int32 × St)) (hrc36 : ∀ (v1' : Int32) (v2' : Int32), rc36 v1' v2' = some rr → ∀ (H : Heap) (locs : List Loc) (ls : Array Slot), IC g q s σ H locs → lv_has ls 3 [(0, .ref (q 1)), (1, .int v1'), (2, .int v2')] → W p l e (rmD 9) s m args below meth c H locs 0 0 (MQ below (QI g (eC g q) q 23 rr.1 rr.2 s.heap.size) args s 0 0 (AQ q 23 s.heap.size)) (F0 m 36 ls [])) (hD : D_X2_mostRight_36b σ rc36 v1 v2 = some rr) (H : Heap) (locs : List Loc) (ls : Array Slot) (I : IC g q s σ H locs) (hl : lv_has ls 3 [(0, .ref (q 1)), (1, .int v1), (2, .int v2)]) : W p l e (rmD 9) s m args below meth c H locs 0 0 (MQ below (QI g (eC g q) q 23 rr.1 rr.2 s.heap.size) args s 0 0 (AQ q 23 s.heap.size)) (F0 m 36 ls []) := by
  have hx := X.1
  have hb := X.2.1
  unfold D_X2_mostRight_36b at hD
  refine lv_iload_n hx hb dX2_mostRight_36 rfl (lv_at hl 2 rfl) ?_
  refine lv_iconst (v := 1) hx hb dX2_mostRight_37 (by decide) ?_
  refine lv_aload_n hx hb dX2_mostRight_38 rfl (lv_at hl 0 rfl) ?_
  refine g_Ride_count X I fl_X2_31 dX2_mostRight_39 ?_
  refine lv_ishl hx hb dX2_mostRight_42 ?_
  refine lv_icmp_ge (tgt := 75) hx hb dX2_mostRight_43 (by decide) (fun hc28 => ?_) (fun hc28 => ?_)
  · have hD := ite_p hc28 hD
    refine lv_iload_n hx hb dX2_mostRight_75 rfl (lv_at hl 1 rfl) ?_
    exact r_iret2 X I hD dX2_mostRight_76
  · have hD := ite_n hc28 hD
    refine lv_iload_n hx hb dX2_mostRight_46 rfl (lv_at hl 2 rfl) ?_
    obtain ⟨y32, hy32, hD⟩ := bd_s hD
    refine r_calli (r_runS (As := [.int v2]) (rest := []) X I (c_J6_bitCount_0f7a4 l g q _ σ v2 hy32) ks_J6_bitCount_0f7a4 ml_X2_86 ⟨Nat.le_of_ble_eq_true rfl, Nat.le_of_ble_eq_true rfl⟩ ⟨Nat.zero_le _, Nat.zero_le _⟩ rfl rfl hl.1 (Nat.le_of_ble_eq_true rfl) dX2_mostRight_47) I (fun H locs I => ?_)
    refine lv_iload_n hx hb dX2_mostRight_50 rfl (lv_at hl 1 rfl) ?_
    obtain ⟨y34, hy34, hD⟩ := bd_s hD
    refine r_calli (r_runS (As := [.int v1]) (rest := [.int y32]) X I (c_J6_bitCount_0f7a4 l g q _ σ v1 hy34) ks_J6_bitCount_0f7a4 ml_X2_86 ⟨Nat.le_of_ble_eq_true rfl, Nat.le_of_ble_eq_true rfl⟩ ⟨Nat.zero_le _, Nat.zero_le _⟩ rfl rfl hl.1 (Nat.le_of_ble_eq_true rfl) dX2_mostRight_51) I (fun H locs I => ?_)
    refine lv_icmp_le (tgt := 69) hx hb dX2_mostRight_54 (by decide) (fun hc35 => ?_) (fun hc35 => ?_)
    · have hD := ite_p hc35 hD
      exact w_X2_mostRight_69 g q X σ v1 v2 rc36 hrc36 hD _ _ _ I (lv_sub hl [0, 1, 2] rfl)
    · have hD := ite_n hc35 hD
      refine lv_aload_n hx hb dX2_mostRight_57 rfl (lv_at hl 0 rfl) ?_
      refine lv_iload_n hx hb dX2_mostRight_58 rfl (lv_at hl 2 rfl) ?_
      refine lv_iconst (v := 0) hx hb dX2_mostRight_59 (by decide) ?_
      refine lv_iconst (v := 0) hx hb dX2_mostRight_60 (by decide) ?_
      obtain ⟨y40, hy40, hD⟩ := bd_s hD
      refine r_calli (r_runV (As := [.int v2, .int (0 : Int32), .int (0 : Int32)]) (rest := []) X I (c_X2_canAllBeRight l g q _ 6 σ v2 (0 : Int32) (0 : Int32) hy40) kv_X2_canAllBeRight ml_X2_105 rfl (by decide) (eC_Ride g q _) ⟨Nat.le_of_ble_eq_true rfl, Nat.le_of_ble_eq_true rfl⟩ ⟨Nat.zero_le _, Nat.zero_le _⟩ rfl rfl hl.1 (Nat.le_of_ble_eq_true rfl) dX2_mostRight_61) I (fun H locs I => ?_)
      refine lv_if_eq (tgt := 69) hx hb dX2_mostRight_64 (by decide) (fun hc41 => ?_) (fun hc41 => ?_)
      · have hD := ite_p hc41 hD
        exact w_X2_mostRight_69 g q X σ v1 v2 rc36 hrc36 hD _ _ _ I (lv_sub hl [0, 1, 2] rfl)
      · have hD := ite_n hc41 hD
        refine lv_iload_n hx hb dX2_mostRight_67 rfl (lv_at hl 2 rfl) ?_
        refine lv_istore_n (lv' := [(1, .int v2), (0, .ref (q 1)), (2, .int v2)]) hx hb dX2_mostRight_68 rfl hl (by decide) rfl (fun ls hl => ?_)
        exact w_X2_mostRight_69 g q X σ v2 v2 rc36 hrc36 hD _ _ _ I (lv_sub hl [1, 0, 2] rfl)
def D_X2_mostRight_36 (σ : St) : Nat → Int32 → Int32 → Option (Int32 × St)
  | 0 => fun _ _ => none
  | n + 1 => fun v1 v2 => D_X2_mostRight_36b σ (D_X2_mostRight_36 σ n) v1 v2
set_option maxRecDepth 100000 in
set_option maxHeartbeats 4000000 in
theorem w_X2_mostRight_36 {p : Program} {l : Launch} {e : Env} {s : State} {m : MethodId} {args : Array Value} {below : List Frame} {meth : Method} {c : Code} (g : Gh) (q : Nat → Nat) (X : MX p s m args meth c cX2_mostRight 3 (some .int) RX2) {rr : (Int32 × St)} (σ : St)  : ∀ (n : Nat) (v1 : Int32) (v2 : Int32), D_X2_mostRight_36 σ n v1 v2 = some rr → ∀ (H : Heap) (locs : List Loc) (ls : Array Slot), IC g q s σ H locs → lv_has ls 3 [(0, .ref (q 1)), (1, .int v1), (2, .int v2)] → W p l e (rmD 9) s m args below meth c H locs 0 0 (MQ below (QI g (eC g q) q 23 rr.1 rr.2 s.heap.size) args s 0 0 (AQ q 23 s.heap.size)) (F0 m 36 ls []) := by
  intro n
  induction n with
  | zero =>
    intro v1 v2 hD H locs ls I hl
    cases hD
  | succ n ih =>
    intro v1 v2 hD H locs ls I hl
    exact w_X2_mostRight_36b g q X σ v1 v2 _ ih hD H locs ls I hl
def D_X2_mostRight_32 (σ : St) : Option (Int32 × St) := D_X2_mostRight_36 σ FU (0 : Int32) (1 : Int32)
set_option maxRecDepth 100000 in
set_option maxHeartbeats 4000000 in
theorem w_X2_mostRight_32 {p : Program} {l : Launch} {e : Env} {s : State} {m : MethodId} {args : Array Value} {below : List Frame} {meth : Method} {c : Code} (g : Gh) (q : Nat → Nat) (X : MX p s m args meth c cX2_mostRight 3 (some .int) RX2) {rr : (Int32 × St)} (σ : St)  (hD : D_X2_mostRight_32 σ = some rr) (H : Heap) (locs : List Loc) (ls : Array Slot) (I : IC g q s σ H locs) (hl : lv_has ls 3 [(0, .ref (q 1))]) : W p l e (rmD 9) s m args below meth c H locs 0 0 (MQ below (QI g (eC g q) q 23 rr.1 rr.2 s.heap.size) args s 0 0 (AQ q 23 s.heap.size)) (F0 m 32 ls []) := by
  have hx := X.1
  have hb := X.2.1
  unfold D_X2_mostRight_32 at hD
  refine lv_iconst (v := 0) hx hb dX2_mostRight_32 (by decide) ?_
  refine lv_istore_n (lv' := [(1, .int (0 : Int32)), (0, .ref (q 1))]) hx hb dX2_mostRight_33 rfl hl (by decide) rfl (fun ls hl => ?_)
  refine lv_iconst (v := 1) hx hb dX2_mostRight_34 (by decide) ?_
  refine lv_istore_n (lv' := [(2, .int (1 : Int32)), (1, .int (0 : Int32)), (0, .ref (q 1))]) hx hb dX2_mostRight_35 rfl hl (by decide) rfl (fun ls hl => ?_)
  exact w_X2_mostRight_36 g q X σ FU (0 : Int32) (1 : Int32) hD _ _ _ I (lv_sub hl [2, 1, 0] rfl)
def D_X2_mostRight_2b (σ : St) (rc2 : St → Int32 → Option (Int32 × St)) (v1 : Int32) : Option (Int32 × St) := if (σ 1 5) ≤ v1 then D_X2_mostRight_32 σ else gd (inb v1 4) ((D_X2_setsToBeRight σ (5 + v1.toNatClampNeg)).bind fun y15 => gd (inb v1 4) (rc2 (up2 σ 4 v1.toNatClampNeg y15) (v1 + (1 : Int32))))
set_option maxRecDepth 100000 in
set_option maxHeartbeats 4000000 in
theorem w_X2_mostRight_2b {p : Program} {l : Launch} {e : Env} {s : State} {m : MethodId} {args : Array Value} {below : List Frame} {meth : Method} {c : Code} (g : Gh) (q : Nat → Nat) (X : MX p s m args meth c cX2_mostRight 3 (some .int) RX2) {rr : (Int32 × St)} (σ : St)  (v1 : Int32) (rc2 : St → Int32 → Option (Int32 × St)) (hrc2 : ∀ (σ' : St) (v1' : Int32), rc2 σ' v1' = some rr → ∀ (H : Heap) (locs : List Loc) (ls : Array Slot), IC g q s σ' H locs → lv_has ls 3 [(0, .ref (q 1)), (1, .int v1')] → W p l e (rmD 9) s m args below meth c H locs 0 0 (MQ below (QI g (eC g q) q 23 rr.1 rr.2 s.heap.size) args s 0 0 (AQ q 23 s.heap.size)) (F0 m 2 ls [])) (hD : D_X2_mostRight_2b σ rc2 v1 = some rr) (H : Heap) (locs : List Loc) (ls : Array Slot) (I : IC g q s σ H locs) (hl : lv_has ls 3 [(0, .ref (q 1)), (1, .int v1)]) : W p l e (rmD 9) s m args below meth c H locs 0 0 (MQ below (QI g (eC g q) q 23 rr.1 rr.2 s.heap.size) args s 0 0 (AQ q 23 s.heap.size)) (F0 m 2 ls []) := by
  have hx := X.1
  have hb := X.2.1
  unfold D_X2_mostRight_2b at hD
  refine lv_iload_n hx hb dX2_mostRight_2 rfl (lv_at hl 1 rfl) ?_
  refine lv_aload_n hx hb dX2_mostRight_3 rfl (lv_at hl 0 rfl) ?_
  refine g_Ride_count X I fl_X2_31 dX2_mostRight_4 ?_
  refine lv_icmp_ge (tgt := 32) hx hb dX2_mostRight_7 (by decide) (fun hc6 => ?_) (fun hc6 => ?_)
  · have hD := ite_p hc6 hD
    exact w_X2_mostRight_32 g q X σ hD _ _ _ I (lv_sub hl [0] rfl)
  · have hD := ite_n hc6 hD
    refine lv_aload_n hx hb dX2_mostRight_10 rfl (lv_at hl 0 rfl) ?_
    refine g_Ride_rightSets X I fl_X2_21 dX2_mostRight_11 ?_
    refine lv_iload_n hx hb dX2_mostRight_14 rfl (lv_at hl 1 rfl) ?_
    refine lv_aload_n hx hb dX2_mostRight_15 rfl (lv_at hl 0 rfl) ?_
    refine lv_aload_n hx hb dX2_mostRight_16 rfl (lv_at hl 0 rfl) ?_
    refine g_Ride_riders X I fl_X2_17 dX2_mostRight_17 ?_
    refine lv_iload_n hx hb dX2_mostRight_20 rfl (lv_at hl 1 rfl) ?_
    obtain ⟨hg14, hD⟩ := gd_s hD
    refine r_aald (t0 := 2) X I (by decide) rfl (eCr_3 g q _) hg14 dX2_mostRight_21 ?_
    obtain ⟨y15, hy15, hD⟩ := bd_s hD
    refine r_calli (r_runV (As := [.ref (q (5 + v1.toNatClampNeg))]) (rest := [.int v1, .ref (q 4)]) X I (c_X2_setsToBeRight l g q _ σ (5 + v1.toNatClampNeg) (kRi_of hg14) hy15) kv_X2_setsToBeRight ml_X2_101 rfl (by decide) (eC_Ride g q _) ⟨Nat.le_of_ble_eq_true rfl, Nat.le_of_ble_eq_true rfl⟩ ⟨Nat.zero_le _, Nat.zero_le _⟩ rfl rfl hl.1 (Nat.le_of_ble_eq_true rfl) dX2_mostRight_22) I (fun H locs I => ?_)
    obtain ⟨hg16, hD⟩ := gd_s hD
    refine r_iast (eC_loc g q) X I (by decide) (eCa_4 g q) hg16 dX2_mostRight_25 (fun H locs I => ?_)
    refine lv_iinc (v := v1 + (1 : Int32)) (lv' := [(1, .int (v1 + (1 : Int32))), (0, .ref (q 1))]) hx hb dX2_mostRight_26 hl (k := 1) rfl rfl (by decide) rfl (fun ls hl => ?_)
    refine lv_goto (tgt := 2) hx hb dX2_mostRight_29 (by decide) ?_
    exact hrc2 (up2 σ 4 v1.toNatClampNeg y15) (v1 + (1 : Int32)) hD _ _ _ I (lv_sub hl [1, 0] rfl)
def D_X2_mostRight_2  : Nat → St → Int32 → Option (Int32 × St)
  | 0 => fun _ _ => none
  | n + 1 => fun σ v1 => D_X2_mostRight_2b σ (D_X2_mostRight_2 n) v1
set_option maxRecDepth 100000 in
set_option maxHeartbeats 4000000 in
theorem w_X2_mostRight_2 {p : Program} {l : Launch} {e : Env} {s : State} {m : MethodId} {args : Array Value} {below : List Frame} {meth : Method} {c : Code} (g : Gh) (q : Nat → Nat) (X : MX p s m args meth c cX2_mostRight 3 (some .int) RX2) {rr : (Int32 × St)}  : ∀ (n : Nat) (σ : St) (v1 : Int32), D_X2_mostRight_2 n σ v1 = some rr → ∀ (H : Heap) (locs : List Loc) (ls : Array Slot), IC g q s σ H locs → lv_has ls 3 [(0, .ref (q 1)), (1, .int v1)] → W p l e (rmD 9) s m args below meth c H locs 0 0 (MQ below (QI g (eC g q) q 23 rr.1 rr.2 s.heap.size) args s 0 0 (AQ q 23 s.heap.size)) (F0 m 2 ls []) := by
  intro n
  induction n with
  | zero =>
    intro σ v1 hD H locs ls I hl
    cases hD
  | succ n ih =>
    intro σ v1 hD H locs ls I hl
    exact w_X2_mostRight_2b g q X σ v1 _ ih hD H locs ls I hl
def D_X2_mostRight (σ : St) : Option (Int32 × St) := D_X2_mostRight_2 FU σ (0 : Int32)
set_option maxRecDepth 100000 in
set_option maxHeartbeats 4000000 in
theorem c_X2_mostRight (l : Launch) (g : Gh) (q : Nat → Nat) (sz : Nat) (σ : St) {rr : (Int32 × St)} (hD : D_X2_mostRight σ = some rr) : Met l yX2_mostRight (wU yX2_mostRight cX2_mostRight 3 (some .int)) (rmD 9) (PQ g (eC g q) q 23 σ sz [.ref (q 1)]) (QI g (eC g q) q 23 rr.1 rr.2 sz) 0 0 (AQ q 23 sz) := by
  refine met_of (Qc := QI g (eC g q) q 23 rr.1 rr.2) (by decide) (Nat.le_of_ble_eq_true rfl) ?_
  intro p e s m below meth c ls X I hl
  have hx := X.1
  have hb := X.2.1
  have hl : lv_has ls 3 [(0, .ref (q 1))] := hl
  unfold D_X2_mostRight at hD
  refine lv_iconst (v := 0) hx hb dX2_mostRight_0 (by decide) ?_
  refine lv_istore_n (lv' := [(1, .int (0 : Int32)), (0, .ref (q 1))]) hx hb dX2_mostRight_1 rfl hl (by decide) rfl (fun ls hl => ?_)
  exact w_X2_mostRight_2 g q X FU σ (0 : Int32) hD _ _ _ I (lv_sub hl [1, 0] rfl)
