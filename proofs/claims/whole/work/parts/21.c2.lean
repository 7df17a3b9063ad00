/-! YearDeck$Rider.yearsAbove(I)I -/
def D_X4_yearsAbove (σ : St) (p0 : Nat) (p1 : Int32) : Option Int32 := if (σ p0 0) = (0 : Int32) then some p1 else if (σ p0 0) = (1 : Int32) then some (p1 + (1 : Int32)) else some ((p1 + (1 : Int32)) / (2 : Int32))
set_option maxRecDepth 100000 in
set_option maxHeartbeats 4000000 in
theorem c_X4_yearsAbove (l : Launch) (g : Gh) (q : Nat → Nat) (sz : Nat) (σ : St) (p0 : Nat) (p1 : Int32) (kp0 : kRi p0) {rr : Int32} (hD : D_X4_yearsAbove σ p0 p1 = some rr) : Met l yX4_yearsAbove (wU yX4_yearsAbove cX4_yearsAbove 2 (some .int)) (rmD 0) (PQ g (eC g q) q 23 σ sz [.ref (q p0), .int p1]) (QI g (eC g q) q 23 rr σ sz) 0 0 (AQ q 23 sz) := by
  refine met_of (Qc := QI g (eC g q) q 23 rr σ) (by decide) (Nat.le_of_ble_eq_true rfl) ?_
  intro p e s m below meth c ls X I hl
  have hx := X.1
  have hb := X.2.1
  have hl : lv_has ls 2 [(0, .ref (q p0)), (1, .int p1)] := hl
  unfold D_X4_yearsAbove at hD
  refine lv_aload_n hx hb dX4_yearsAbove_0 rfl (lv_at hl 0 rfl) ?_
  refine g_Rider_kind X I kp0 fl_X4_9 dX4_yearsAbove_1 ?_
  by_cases hc4 : (σ p0 0) = (0 : Int32)
  · have hD := ite_p hc4 hD
    refine lv_lookup (off := 28) (tgt := 32) hx hb dX4_yearsAbove_4 (by decide) (by rw [hc4]; rfl) (by decide) ?_
    refine lv_iload_n hx hb dX4_yearsAbove_32 rfl (lv_at hl 1 rfl) ?_
    exact r_iret X I hD dX4_yearsAbove_33
  · have hD := ite_n hc4 hD
    by_cases hc7 : (σ p0 0) = (1 : Int32)
    · have hD := ite_p hc7 hD
      refine lv_lookup (off := 30) (tgt := 34) hx hb dX4_yearsAbove_4 (by decide) (by rw [hc7]; rfl) (by decide) ?_
      refine lv_iload_n hx hb dX4_yearsAbove_34 rfl (lv_at hl 1 rfl) ?_
      refine lv_iconst (v := 1) hx hb dX4_yearsAbove_35 (by decide) ?_
      refine lv_iadd hx hb dX4_yearsAbove_36 ?_
      exact r_iret X I hD dX4_yearsAbove_37
    · have hD := ite_n hc7 hD
      refine lv_lookup (off := 34) (tgt := 38) hx hb dX4_yearsAbove_4 (by decide) (by refine (lv_osw hc4 (by decide)).trans ?_; refine (lv_osw hc7 (by decide)).trans ?_; rfl) (by decide) ?_
      refine lv_iload_n hx hb dX4_yearsAbove_38 rfl (lv_at hl 1 rfl) ?_
      refine lv_iconst (v := 1) hx hb dX4_yearsAbove_39 (by decide) ?_
      refine lv_iadd hx hb dX4_yearsAbove_40 ?_
      refine lv_iconst (v := 2) hx hb dX4_yearsAbove_41 (by decide) ?_
      refine lv_idiv hx hb dX4_yearsAbove_42 (by decide) ?_
      exact r_iret X I hD dX4_yearsAbove_43

/-! YearDeck$RideText.digit(I)I -/
def D_X3_digit (σ : St) (p0 : Int32) : Option Int32 := some (p0 - (48 : Int32))
set_option maxRecDepth 100000 in
set_option maxHeartbeats 4000000 in
theorem c_X3_digit (l : Launch) (g : Gh) (q : Nat → Nat) (sz : Nat) (σ : St) (p0 : Int32) {rr : Int32} (hD : D_X3_digit σ p0 = some rr) : Met l yX3_digit (wU yX3_digit cX3_digit 1 (some .int)) (rmD 0) (PQ g (eC g q) q 23 σ sz [.int p0]) (QI g (eC g q) q 23 rr σ sz) 0 0 (AQ q 23 sz) := by
  refine met_of (Qc := QI g (eC g q) q 23 rr σ) (by decide) (Nat.le_of_ble_eq_true rfl) ?_
  intro p e s m below meth c ls X I hl
  have hx := X.1
  have hb := X.2.1
  have hl : lv_has ls 1 [(0, .int p0)] := hl
  unfold D_X3_digit at hD
  refine lv_iload_n hx hb dX3_digit_0 rfl (lv_at hl 0 rfl) ?_
  refine lv_bipush (v := 48) hx hb dX3_digit_1 (by decide) ?_
  refine lv_isub hx hb dX3_digit_3 ?_
  exact r_iret X I hD dX3_digit_4

/-! YearDeck$RideText.isDigit(III)Z -/
def D_X3_isDigit (σ : St) (p0 : Int32) (p1 : Int32) (p2 : Int32) : Option Int32 := if p0 < ((48 : Int32) + p1) then some (0 : Int32) else if ((48 : Int32) + p2) < p0 then some (0 : Int32) else some (1 : Int32)
set_option maxRecDepth 100000 in
set_option maxHeartbeats 4000000 in
theorem c_X3_isDigit (l : Launch) (g : Gh) (q : Nat → Nat) (sz : Nat) (σ : St) (p0 : Int32) (p1 : Int32) (p2 : Int32) {rr : Int32} (hD : D_X3_isDigit σ p0 p1 p2 = some rr) : Met l yX3_isDigit (wU yX3_isDigit cX3_isDigit 3 (some .boolean)) (rmD 0) (PQ g (eC g q) q 23 σ sz [.int p0, .int p1, .int p2]) (QI g (eC g q) q 23 rr σ sz) 0 0 (AQ q 23 sz) := by
  refine met_of (Qc := QI g (eC g q) q 23 rr σ) (by decide) (Nat.le_of_ble_eq_true rfl) ?_
  intro p e s m below meth c ls X I hl
  have hx := X.1
  have hb := X.2.1
  have hl : lv_has ls 3 [(0, .int p0), (1, .int p1), (2, .int p2)] := hl
  unfold D_X3_isDigit at hD
  refine lv_iload_n hx hb dX3_isDigit_0 rfl (lv_at hl 0 rfl) ?_
  refine lv_bipush (v := 48) hx hb dX3_isDigit_1 (by decide) ?_
  refine lv_iload_n hx hb dX3_isDigit_3 rfl (lv_at hl 1 rfl) ?_
  refine lv_iadd hx hb dX3_isDigit_4 ?_
  refine lv_icmp_lt (tgt := 20) hx hb dX3_isDigit_5 (by decide) (fun hc5 => ?_) (fun hc5 => ?_)
  · have hD := ite_p hc5 hD
    refine lv_iconst (v := 0) hx hb dX3_isDigit_20 (by decide) ?_
    exact r_zret X I hD rfl dX3_isDigit_21
  · have hD := ite_n hc5 hD
    refine lv_iload_n hx hb dX3_isDigit_8 rfl (lv_at hl 0 rfl) ?_
    refine lv_bipush (v := 48) hx hb dX3_isDigit_9 (by decide) ?_
    refine lv_iload_n hx hb dX3_isDigit_11 rfl (lv_at hl 2 rfl) ?_
    refine lv_iadd hx hb dX3_isDigit_12 ?_
    refine lv_icmp_gt (tgt := 20) hx hb dX3_isDigit_13 (by decide) (fun hc12 => ?_) (fun hc12 => ?_)
    · have hD := ite_p hc12 hD
      refine lv_iconst (v := 0) hx hb dX3_isDigit_20 (by decide) ?_
      exact r_zret X I hD rfl dX3_isDigit_21
    · have hD := ite_n hc12 hD
      refine lv_iconst (v := 1) hx hb dX3_isDigit_16 (by decide) ?_
      refine lv_goto (tgt := 21) hx hb dX3_isDigit_17 (by decide) ?_
      exact r_zret X I hD rfl dX3_isDigit_21

/-! YearDeck$RideText.sectionsTold(LYearDeck$Sheet;II)I -/
def D_X3_sectionsTold_2b (σ : St) (rc2 : Int32 → Option Int32) (v0 : Nat) (v1 : Int32) (v2 : Int32) (v3 : Int32) : Option Int32 := if (5 : Int32) ≤ v3 then some v3 else if v2 ≤ ((3 : Int32) + v3) then some v3 else (D_X5_at σ v0 ((v1 + (3 : Int32)) + v3)).bind fun y21 => (D_X3_isDigit σ y21 (0 : Int32) (3 : Int32)).bind fun y24 => if y24 = 0 then some v3 else rc2 (v3 + (1 : Int32))
set_option maxRecDepth 100000 in
set_option maxHeartbeats 4000000 in
theorem w_X3_sectionsTold_2b {p : Program} {l : Launch} {e : Env} {s : State} {m : MethodId} {args : Array Value} {below : List Frame} {meth : Method} {c : Code} (g : Gh) (q : Nat → Nat) (X : MX p s m args meth c cX3_sectionsTold 4 (some .int) RX3) {rr : Int32} (σ : St)  (v0 : Nat) (v1 : Int32) (v2 : Int32) (v3 : Int32) (kv0 : kSh v0) (rc2 : Int32 → Option Int32) (hrc2 : ∀ (v3' : Int32), rc2 v3' = some rr → ∀ (H : Heap) (locs : List Loc) (ls : Array Slot), IC g q s σ H locs → lv_has ls 4 [(0, .ref (q v0)), (1, .int v1), (2, .int v2), (3, .int v3')] → W p l e (rmD 2) s m args below meth c H locs 0 0 (MQ below (QI g (eC g q) q 23 rr σ s.heap.size) args s 0 0 (AQ q 23 s.heap.size)) (F0 m 2 ls [])) (hD : D_X3_sectionsTold_2b σ rc2 v0 v1 v2 v3 = some rr) (H : Heap) (locs : List Loc) (ls : Array Slot) (I : IC g q s σ H locs) (hl : lv_has ls 4 [(0, .ref (q v0)), (1, .int v1), (2, .int v2), (3, .int v3)]) : W p l e (rmD 2) s m args below meth c H locs 0 0 (MQ below (QI g (eC g q) q 23 rr σ s.heap.size) args s 0 0 (AQ q 23 s.heap.size)) (F0 m 2 ls []) := by
  have hx := X.1
  have hb := X.2.1
  unfold D_X3_sectionsTold_2b at hD
  refine lv_iload_n hx hb dX3_sectionsTold_2 rfl (lv_at hl 3 rfl) ?_
  refine lv_iconst (v := 5) hx hb dX3_sectionsTold_3 (by decide) ?_
  refine lv_icmp_ge (tgt := 37) hx hb dX3_sectionsTold_4 (by decide) (fun hc5 => ?_) (fun hc5 => ?_)
  · have hD := ite_p hc5 hD
    refine lv_iload_n hx hb dX3_sectionsTold_37 rfl (lv_at hl 3 rfl) ?_
    exact r_iret X I hD dX3_sectionsTold_38
  · have hD := ite_n hc5 hD
    refine lv_iconst (v := 3) hx hb dX3_sectionsTold_7 (by decide) ?_
    refine lv_iload_n hx hb dX3_sectionsTold_8 rfl (lv_at hl 3 rfl) ?_
    refine lv_iadd hx hb dX3_sectionsTold_9 ?_
    refine lv_iload_n hx hb dX3_sectionsTold_10 rfl (lv_at hl 2 rfl) ?_
    refine lv_icmp_ge (tgt := 37) hx hb dX3_sectionsTold_11 (by decide) (fun hc12 => ?_) (fun hc12 => ?_)
    · have hD := ite_p hc12 hD
      refine lv_iload_n hx hb dX3_sectionsTold_37 rfl (lv_at hl 3 rfl) ?_
      exact r_iret X I hD dX3_sectionsTold_38
    · have hD := ite_n hc12 hD
      refine lv_aload_n hx hb dX3_sectionsTold_14 rfl (lv_at hl 0 rfl) ?_
      refine lv_iload_n hx hb dX3_sectionsTold_15 rfl (lv_at hl 1 rfl) ?_
      refine lv_iconst (v := 3) hx hb dX3_sectionsTold_16 (by decide) ?_
      refine lv_iadd hx hb dX3_sectionsTold_17 ?_
      refine lv_iload_n hx hb dX3_sectionsTold_18 rfl (lv_at hl 3 rfl) ?_
      refine lv_iadd hx hb dX3_sectionsTold_19 ?_
      obtain ⟨y21, hy21, hD⟩ := bd_s hD
      refine r_calli (r_runV (As := [.int ((v1 + (3 : Int32)) + v3)]) (rest := []) X I (c_X5_at l g q _ σ v0 ((v1 + (3 : Int32)) + v3) kv0 hy21) kv_X5_at ml_X3_19 rfl (kSh_lt kv0) (eC_Sheet g q _ kv0) ⟨Nat.le_of_ble_eq_true rfl, Nat.le_of_ble_eq_true rfl⟩ ⟨Nat.zero_le _, Nat.zero_le _⟩ rfl rfl hl.1 (Nat.le_of_ble_eq_true rfl) dX3_sectionsTold_20) I (fun H locs I => ?_)
      refine lv_iconst (v := 0) hx hb dX3_sectionsTold_23 (by decide) ?_
      refine lv_iconst (v := 3) hx hb dX3_sectionsTold_24 (by decide) ?_
      obtain ⟨y24, hy24, hD⟩ := bd_s hD
      refine r_calli (r_runS (As := [.int y21, .int (0 : Int32), .int (3 : Int32)]) (rest := []) X I (c_X3_isDigit l g q _ σ y21 (0 : Int32) (3 : Int32) hy24) ks_X3_isDigit ml_X3_25 ⟨Nat.le_of_ble_eq_true rfl, Nat.le_of_ble_eq_true rfl⟩ ⟨Nat.zero_le _, Nat.zero_le _⟩ rfl rfl hl.1 (Nat.le_of_ble_eq_true rfl) dX3_sectionsTold_25) I (fun H locs I => ?_)
      refine lv_if_eq (tgt := 37) hx hb dX3_sectionsTold_28 (by decide) (fun hc25 => ?_) (fun hc25 => ?_)
      · have hD := ite_p hc25 hD
        refine lv_iload_n hx hb dX3_sectionsTold_37 rfl (lv_at hl 3 rfl) ?_
        exact r_iret X I hD dX3_sectionsTold_38
      · have hD := ite_n hc25 hD
        refine lv_iinc (v := v3 + (1 : Int32)) (lv' := [(3, .int (v3 + (1 : Int32))), (0, .ref (q v0)), (1, .int v1), (2, .int v2)]) hx hb dX3_sectionsTold_31 hl (k := 3) rfl rfl (by decide) rfl (fun ls hl => ?_)
        refine lv_goto (tgt := 2) hx hb dX3_sectionsTold_34 (by decide) ?_
        exact hrc2 (v3 + (1 : Int32)) hD _ _ _ I (lv_sub hl [1, 2, 3, 0] rfl)
def D_X3_sectionsTold_2 (σ : St) (v0 : Nat) (v1 : Int32) (v2 : Int32) : Nat → Int32 → Option Int32
  | 0 => fun _ => none
  | n + 1 => fun v3 => D_X3_sectionsTold_2b σ (D_X3_sectionsTold_2 σ v0 v1 v2 n) v0 v1 v2 v3
set_option maxRecDepth 100000 in
set_option maxHeartbeats 4000000 in
theorem w_X3_sectionsTold_2 {p : Program} {l : Launch} {e : Env} {s : State} {m : MethodId} {args : Array Value} {below : List Frame} {meth : Method} {c : Code} (g : Gh) (q : Nat → Nat) (X : MX p s m args meth c cX3_sectionsTold 4 (some .int) RX3) {rr : Int32} (σ : St)  (v0 : Nat) (v1 : Int32) (v2 : Int32) (kv0 : kSh v0) : ∀ (n : Nat) (v3 : Int32), D_X3_sectionsTold_2 σ v0 v1 v2 n v3 = some rr → ∀ (H : Heap) (locs : List Loc) (ls : Array Slot), IC g q s σ H locs → lv_has ls 4 [(0, .ref (q v0)), (1, .int v1), (2, .int v2), (3, .int v3)] → W p l e (rmD 2) s m args below meth c H locs 0 0 (MQ below (QI g (eC g q) q 23 rr σ s.heap.size) args s 0 0 (AQ q 23 s.heap.size)) (F0 m 2 ls []) := by
  intro n
  induction n with
  | zero =>
    intro v3 hD H locs ls I hl
    cases hD
  | succ n ih =>
    intro v3 hD H locs ls I hl
    exact w_X3_sectionsTold_2b g q X σ v0 v1 v2 v3 kv0 _ ih hD H locs ls I hl
def D_X3_sectionsTold (σ : St) (p0 : Nat) (p1 : Int32) (p2 : Int32) : Option Int32 := D_X3_sectionsTold_2 σ p0 p1 p2 FU (0 : Int32)
set_option maxRecDepth 100000 in
set_option maxHeartbeats 4000000 in
theorem c_X3_sectionsTold (l : Launch) (g : Gh) (q : Nat → Nat) (sz : Nat) (σ : St) (p0 : Nat) (p1 : Int32) (p2 : Int32) (kp0 : kSh p0) {rr : Int32} (hD : D_X3_sectionsTold σ p0 p1 p2 = some rr) : Met l yX3_sectionsTold (wU yX3_sectionsTold cX3_sectionsTold 4 (some .int)) (rmD 2) (PQ g (eC g q) q 23 σ sz [.ref (q p0), .int p1, .int p2]) (QI g (eC g q) q 23 rr σ sz) 0 0 (AQ q 23 sz) := by
  refine met_of (Qc := QI g (eC g q) q 23 rr σ) (by decide) (Nat.le_of_ble_eq_true rfl) ?_
  intro p e s m below meth c ls X I hl
  have hx := X.1
  have hb := X.2.1
  have hl : lv_has ls 4 [(0, .ref (q p0)), (1, .int p1), (2, .int p2)] := hl
  unfold D_X3_sectionsTold at hD
  refine lv_iconst (v := 0) hx hb dX3_sectionsTold_0 (by decide) ?_
  refine lv_istore_n (lv' := [(3, .int (0 : Int32)), (0, .ref (q p0)), (1, .int p1), (2, .int p2)]) hx hb dX3_sectionsTold_1 rfl hl (by decide) rfl (fun ls hl => ?_)
  exact w_X3_sectionsTold_2 g q X σ p0 p1 p2 kp0 FU (0 : Int32) hD _ _ _ I (lv_sub hl [1, 2, 3, 0] rfl)

/-! YearDeck$RideText.kindOf(I)I -/
def D_X3_kindOf (σ : St) (p0 : Int32) : Option Int32 := if p0 = (101 : Int32) then some (2 : Int32) else if p0 = (108 : Int32) then some (1 : Int32) else if p0 = (114 : Int32) then some (0 : Int32) else some (-9 : Int32)
set_option maxRecDepth 100000 in
set_option maxHeartbeats 4000000 in
theorem c_X3_kindOf (l : Launch) (g : Gh) (q : Nat → Nat) (sz : Nat) (σ : St) (p0 : Int32) {rr : Int32} (hD : D_X3_kindOf σ p0 = some rr) : Met l yX3_kindOf (wU yX3_kindOf cX3_kindOf 1 (some .int)) (rmD 0) (PQ g (eC g q) q 23 σ sz [.int p0]) (QI g (eC g q) q 23 rr σ sz) 0 0 (AQ q 23 sz) := by
  refine met_of (Qc := QI g (eC g q) q 23 rr σ) (by decide) (Nat.le_of_ble_eq_true rfl) ?_
  intro p e s m below meth c ls X I hl
  have hx := X.1
  have hb := X.2.1
  have hl : lv_has ls 1 [(0, .int p0)] := hl
  unfold D_X3_kindOf at hD
  refine lv_iload_n hx hb dX3_kindOf_0 rfl (lv_at hl 0 rfl) ?_
  by_cases hc3 : p0 = (101 : Int32)
  · have hD := ite_p hc3 hD
    refine lv_lookup (off := 39) (tgt := 40) hx hb dX3_kindOf_1 (by decide) (by rw [hc3]; rfl) (by decide) ?_
    refine lv_iconst (v := 2) hx hb dX3_kindOf_40 (by decide) ?_
    exact r_iret X I hD dX3_kindOf_41
  · have hD := ite_n hc3 hD
    by_cases hc6 : p0 = (108 : Int32)
    · have hD := ite_p hc6 hD
      refine lv_lookup (off := 37) (tgt := 38) hx hb dX3_kindOf_1 (by decide) (by rw [hc6]; rfl) (by decide) ?_
      refine lv_iconst (v := 1) hx hb dX3_kindOf_38 (by decide) ?_
      exact r_iret X I hD dX3_kindOf_39
    · have hD := ite_n hc6 hD
      by_cases hc9 : p0 = (114 : Int32)
      · have hD := ite_p hc9 hD
        refine lv_lookup (off := 35) (tgt := 36) hx hb dX3_kindOf_1 (by decide) (by rw [hc9]; rfl) (by decide) ?_
        refine lv_iconst (v := 0) hx hb dX3_kindOf_36 (by decide) ?_
        exact r_iret X I hD dX3_kindOf_37
      · have hD := ite_n hc9 hD
        refine lv_lookup (off := 41) (tgt := 42) hx hb dX3_kindOf_1 (by decide) (by refine (lv_osw hc3 (by decide)).trans ?_; refine (lv_osw hc6 (by decide)).trans ?_; refine (lv_osw hc9 (by decide)).trans ?_; rfl) (by decide) ?_
        refine lv_bipush (v := -9) hx hb dX3_kindOf_42 (by decide) ?_
        exact r_iret X I hD dX3_kindOf_44

/-! YearDeck$Rider.twoDigits(LYearDeck$Sheet;I)I -/
def D_X4_twoDigits (σ : St) (p0 : Nat) (p1 : Int32) : Option Int32 := (D_X5_at σ p0 p1).bind fun y4 => (D_X3_digit σ y4).bind fun y5 => (D_X5_at σ p0 (p1 + (1 : Int32))).bind fun y11 => (D_X3_digit σ y11).bind fun y12 => some (((10 : Int32) * y5) + y12)
set_option maxRecDepth 100000 in
set_option maxHeartbeats 4000000 in
theorem c_X4_twoDigits (l : Launch) (g : Gh) (q : Nat → Nat) (sz : Nat) (σ : St) (p0 : Nat) (p1 : Int32) (kp0 : kSh p0) {rr : Int32} (hD : D_X4_twoDigits σ p0 p1 = some rr) : Met l yX4_twoDigits (wU yX4_twoDigits cX4_twoDigits 2 (some .int)) (rmD 2) (PQ g (eC g q) q 23 σ sz [.ref (q p0), .int p1]) (QI g (eC g q) q 23 rr σ sz) 0 0 (AQ q 23 sz) := by
  refine met_of (Qc := QI g (eC g q) q 23 rr σ) (by decide) (Nat.le_of_ble_eq_true rfl) ?_
  intro p e s m below meth c ls X I hl
  have hx := X.1
  have hb := X.2.1
  have hl : lv_has ls 2 [(0, .ref (q p0)), (1, .int p1)] := hl
  unfold D_X4_twoDigits at hD
  refine lv_bipush (v := 10) hx hb dX4_twoDigits_0 (by decide) ?_
  refine lv_aload_n hx hb dX4_twoDigits_2 rfl (lv_at hl 0 rfl) ?_
  refine lv_iload_n hx hb dX4_twoDigits_3 rfl (lv_at hl 1 rfl) ?_
  obtain ⟨y4, hy4, hD⟩ := bd_s hD
  refine r_calli (r_runV (As := [.int p1]) (rest := [.int (10 : Int32)]) X I (c_X5_at l g q _ σ p0 p1 kp0 hy4) kv_X5_at ml_X4_27 rfl (kSh_lt kp0) (eC_Sheet g q _ kp0) ⟨Nat.le_of_ble_eq_true rfl, Nat.le_of_ble_eq_true rfl⟩ ⟨Nat.zero_le _, Nat.zero_le _⟩ rfl rfl hl.1 (Nat.le_of_ble_eq_true rfl) dX4_twoDigits_4) I (fun H locs I => ?_)
  obtain ⟨y5, hy5, hD⟩ := bd_s hD
  refine r_calli (r_runS (As := [.int y4]) (rest := [.int (10 : Int32)]) X I (c_X3_digit l g q _ σ y4 hy5) ks_X3_digit ml_X4_38 ⟨Nat.le_of_ble_eq_true rfl, Nat.le_of_ble_eq_true rfl⟩ ⟨Nat.zero_le _, Nat.zero_le _⟩ rfl rfl hl.1 (Nat.le_of_ble_eq_true rfl) dX4_twoDigits_7) I (fun H locs I => ?_)
  refine lv_imul hx hb dX4_twoDigits_10 ?_
  refine lv_aload_n hx hb dX4_twoDigits_11 rfl (lv_at hl 0 rfl) ?_
  refine lv_iload_n hx hb dX4_twoDigits_12 rfl (lv_at hl 1 rfl) ?_
  refine lv_iconst (v := 1) hx hb dX4_twoDigits_13 (by decide) ?_
  refine lv_iadd hx hb dX4_twoDigits_14 ?_
  obtain ⟨y11, hy11, hD⟩ := bd_s hD
  refine r_calli (r_runV (As := [.int (p1 + (1 : Int32))]) (rest := [.int ((10 : Int32) * y5)]) X I (c_X5_at l g q _ σ p0 (p1 + (1 : Int32)) kp0 hy11) kv_X5_at ml_X4_27 rfl (kSh_lt kp0) (eC_Sheet g q _ kp0) ⟨Nat.le_of_ble_eq_true rfl, Nat.le_of_ble_eq_true rfl⟩ ⟨Nat.zero_le _, Nat.zero_le _⟩ rfl rfl hl.1 (Nat.le_of_ble_eq_true rfl) dX4_twoDigits_15) I (fun H locs I => ?_)
  obtain ⟨y12, hy12, hD⟩ := bd_s hD
  refine r_calli (r_runS (As := [.int y11]) (rest := [.int ((10 : Int32) * y5)]) X I (c_X3_digit l g q _ σ y11 hy12) ks_X3_digit ml_X4_38 ⟨Nat.le_of_ble_eq_true rfl, Nat.le_of_ble_eq_true rfl⟩ ⟨Nat.zero_le _, Nat.zero_le _⟩ rfl rfl hl.1 (Nat.le_of_ble_eq_true rfl) dX4_twoDigits_18) I (fun H locs I => ?_)
  refine lv_iadd hx hb dX4_twoDigits_21 ?_
  exact r_iret X I hD dX4_twoDigits_22

/-! YearDeck$Rider.board(LYearDeck$Sheet;I)V -/
def D_X4_board (σ : St) (p0 : Nat) (p1 : Nat) (p2 : Int32) : Option St := (D_X5_at σ p1 (p2 + (1 : Int32))).bind fun y6 => (D_X3_kindOf σ y6).bind fun y7 => (D_X5_at (up2 σ p0 0 y7) p1 (p2 + (2 : Int32))).bind fun y14 => (D_X3_digit (up2 σ p0 0 y7) y14).bind fun y15 => (D_X5_at (up2 (up2 σ p0 0 y7) p0 1 y15) p1 (p2 + (3 : Int32))).bind fun y22 => (D_X3_digit (up2 (up2 σ p0 0 y7) p0 1 y15) y22).bind fun y23 => (D_X4_twoDigits (up2 (up2 (up2 σ p0 0 y7) p0 1 y15) p0 2 y23) p1 (p2 + (4 : Int32))).bind fun y30 => (D_X4_twoDigits (up2 (up2 (up2 (up2 σ p0 0 y7) p0 1 y15) p0 2 y23) p0 3 y30) p1 (p2 + (6 : Int32))).bind fun y37 => some (up2 (up2 (up2 (up2 (up2 σ p0 0 y7) p0 1 y15) p0 2 y23) p0 3 y30) p0 4 y37)
set_option maxRecDepth 100000 in
set_option maxHeartbeats 4000000 in
theorem c_X4_board (l : Launch) (g : Gh) (q : Nat → Nat) (sz : Nat) (σ : St) (p0 : Nat) (p1 : Nat) (p2 : Int32) (kp0 : kRi p0) (kp1 : kSh p1) {rr : St} (hD : D_X4_board σ p0 p1 p2 = some rr) : Met l yX4_board (wU yX4_board cX4_board 3 none) (rmD 3) (PQ g (eC g q) q 23 σ sz [.ref (q p0), .ref (q p1), .int p2]) (QV g (eC g q) q 23 rr sz) 0 0 (AQ q 23 sz) := by
  refine met_of (Qc := QV g (eC g q) q 23 rr) (by decide) (Nat.le_of_ble_eq_true rfl) ?_
  intro p e s m below meth c ls X I hl
  have hx := X.1
  have hb := X.2.1
  have hl : lv_has ls 3 [(0, .ref (q p0)), (1, .ref (q p1)), (2, .int p2)] := hl
  unfold D_X4_board at hD
  refine lv_aload_n hx hb dX4_board_0 rfl (lv_at hl 0 rfl) ?_
  refine lv_aload_n hx hb dX4_board_1 rfl (lv_at hl 1 rfl) ?_
  refine lv_iload_n hx hb dX4_board_2 rfl (lv_at hl 2 rfl) ?_
  refine lv_iconst (v := 1) hx hb dX4_board_3 (by decide) ?_
  refine lv_iadd hx hb dX4_board_4 ?_
  obtain ⟨y6, hy6, hD⟩ := bd_s hD
  refine r_calli (r_runV (As := [.int (p2 + (1 : Int32))]) (rest := [.ref (q p0)]) X I (c_X5_at l g q _ σ p1 (p2 + (1 : Int32)) kp1 hy6) kv_X5_at ml_X4_27 rfl (kSh_lt kp1) (eC_Sheet g q _ kp1) ⟨Nat.le_of_ble_eq_true rfl, Nat.le_of_ble_eq_true rfl⟩ ⟨Nat.zero_le _, Nat.zero_le _⟩ rfl rfl hl.1 (Nat.le_of_ble_eq_true rfl) dX4_board_5) I (fun H locs I => ?_)
  obtain ⟨y7, hy7, hD⟩ := bd_s hD
  refine r_calli (r_runS (As := [.int y6]) (rest := [.ref (q p0)]) X I (c_X3_kindOf l g q _ σ y6 hy7) ks_X3_kindOf ml_X4_33 ⟨Nat.le_of_ble_eq_true rfl, Nat.le_of_ble_eq_true rfl⟩ ⟨Nat.zero_le _, Nat.zero_le _⟩ rfl rfl hl.1 (Nat.le_of_ble_eq_true rfl) dX4_board_8) I (fun H locs I => ?_)
  refine p_Rider_kind X I kp0 fl_X4_9 dX4_board_11 (fun H locs I => ?_)
  refine lv_aload_n hx hb dX4_board_14 rfl (lv_at hl 0 rfl) ?_
  refine lv_aload_n hx hb dX4_board_15 rfl (lv_at hl 1 rfl) ?_
  refine lv_iload_n hx hb dX4_board_16 rfl (lv_at hl 2 rfl) ?_
  refine lv_iconst (v := 2) hx hb dX4_board_17 (by decide) ?_
  refine lv_iadd hx hb dX4_board_18 ?_
  obtain ⟨y14, hy14, hD⟩ := bd_s hD
  refine r_calli (r_runV (As := [.int (p2 + (2 : Int32))]) (rest := [.ref (q p0)]) X I (c_X5_at l g q _ (up2 σ p0 0 y7) p1 (p2 + (2 : Int32)) kp1 hy14) kv_X5_at ml_X4_27 rfl (kSh_lt kp1) (eC_Sheet g q _ kp1) ⟨Nat.le_of_ble_eq_true rfl, Nat.le_of_ble_eq_true rfl⟩ ⟨Nat.zero_le _, Nat.zero_le _⟩ rfl rfl hl.1 (Nat.le_of_ble_eq_true rfl) dX4_board_19) I (fun H locs I => ?_)
  obtain ⟨y15, hy15, hD⟩ := bd_s hD
  refine r_calli (r_runS (As := [.int y14]) (rest := [.ref (q p0)]) X I (c_X3_digit l g q _ (up2 σ p0 0 y7) y14 hy15) ks_X3_digit ml_X4_38 ⟨Nat.le_of_ble_eq_true rfl, Nat.le_of_ble_eq_true rfl⟩ ⟨Nat.zero_le _, Nat.zero_le _⟩ rfl rfl hl.1 (Nat.le_of_ble_eq_true rfl) dX4_board_22) I (fun H locs I => ?_)
  refine p_Rider_on X I kp0 fl_X4_15 dX4_board_25 (fun H locs I => ?_)
  refine lv_aload_n hx hb dX4_board_28 rfl (lv_at hl 0 rfl) ?_
  refine lv_aload_n hx hb dX4_board_29 rfl (lv_at hl 1 rfl) ?_
  refine lv_iload_n hx hb dX4_board_30 rfl (lv_at hl 2 rfl) ?_
  refine lv_iconst (v := 3) hx hb dX4_board_31 (by decide) ?_
  refine lv_iadd hx hb dX4_board_32 ?_
  obtain ⟨y22, hy22, hD⟩ := bd_s hD
  refine r_calli (r_runV (As := [.int (p2 + (3 : Int32))]) (rest := [.ref (q p0)]) X I (c_X5_at l g q _ (up2 (up2 σ p0 0 y7) p0 1 y15) p1 (p2 + (3 : Int32)) kp1 hy22) kv_X5_at ml_X4_27 rfl (kSh_lt kp1) (eC_Sheet g q _ kp1) ⟨Nat.le_of_ble_eq_true rfl, Nat.le_of_ble_eq_true rfl⟩ ⟨Nat.zero_le _, Nat.zero_le _⟩ rfl rfl hl.1 (Nat.le_of_ble_eq_true rfl) dX4_board_33) I (fun H locs I => ?_)
  obtain ⟨y23, hy23, hD⟩ := bd_s hD
  refine r_calli (r_runS (As := [.int y22]) (rest := [.ref (q p0)]) X I (c_X3_digit l g q _ (up2 (up2 σ p0 0 y7) p0 1 y15) y22 hy23) ks_X3_digit ml_X4_38 ⟨Nat.le_of_ble_eq_true rfl, Nat.le_of_ble_eq_true rfl⟩ ⟨Nat.zero_le _, Nat.zero_le _⟩ rfl rfl hl.1 (Nat.le_of_ble_eq_true rfl) dX4_board_36) I (fun H locs I => ?_)
  refine p_Rider_off X I kp0 fl_X4_18 dX4_board_39 (fun H locs I => ?_)
  refine lv_aload_n hx hb dX4_board_42 rfl (lv_at hl 0 rfl) ?_
  refine lv_aload_n hx hb dX4_board_43 rfl (lv_at hl 1 rfl) ?_
  refine lv_iload_n hx hb dX4_board_44 rfl (lv_at hl 2 rfl) ?_
  refine lv_iconst (v := 4) hx hb dX4_board_45 (by decide) ?_
  refine lv_iadd hx hb dX4_board_46 ?_
  obtain ⟨y30, hy30, hD⟩ := bd_s hD
  refine r_calli (r_runS (As := [.ref (q p1), .int (p2 + (4 : Int32))]) (rest := [.ref (q p0)]) X I (c_X4_twoDigits l g q _ (up2 (up2 (up2 σ p0 0 y7) p0 1 y15) p0 2 y23) p1 (p2 + (4 : Int32)) kp1 hy30) ks_X4_twoDigits ml_X4_41 ⟨Nat.le_of_ble_eq_true rfl, Nat.le_of_ble_eq_true rfl⟩ ⟨Nat.zero_le _, Nat.zero_le _⟩ rfl rfl hl.1 (Nat.le_of_ble_eq_true rfl) dX4_board_47) I (fun H locs I => ?_)
  refine p_Rider_years X I kp0 fl_X4_21 dX4_board_50 (fun H locs I => ?_)
  refine lv_aload_n hx hb dX4_board_53 rfl (lv_at hl 0 rfl) ?_
  refine lv_aload_n hx hb dX4_board_54 rfl (lv_at hl 1 rfl) ?_
  refine lv_iload_n hx hb dX4_board_55 rfl (lv_at hl 2 rfl) ?_
  refine lv_bipush (v := 6) hx hb dX4_board_56 (by decide) ?_
  refine lv_iadd hx hb dX4_board_58 ?_
  obtain ⟨y37, hy37, hD⟩ := bd_s hD
  refine r_calli (r_runS (As := [.ref (q p1), .int (p2 + (6 : Int32))]) (rest := [.ref (q p0)]) X I (c_X4_twoDigits l g q _ (up2 (up2 (up2 (up2 σ p0 0 y7) p0 1 y15) p0 2 y23) p0 3 y30) p1 (p2 + (6 : Int32)) kp1 hy37) ks_X4_twoDigits ml_X4_41 ⟨Nat.le_of_ble_eq_true rfl, Nat.le_of_ble_eq_true rfl⟩ ⟨Nat.zero_le _, Nat.zero_le _⟩ rfl rfl hl.1 (Nat.le_of_ble_eq_true rfl) dX4_board_59) I (fun H locs I => ?_)
  refine p_Rider_want X I kp0 fl_X4_24 dX4_board_62 (fun H locs I => ?_)
  exact r_vret X I hD dX4_board_65

/-! YearDeck$Rider.own()I -/
def D_X4_own (σ : St) (p0 : Nat) : Option Int32 := some (((1 : Int32) <<< ((σ p0 2) &&& 31)) - ((1 : Int32) <<< ((σ p0 1) &&& 31)))
set_option maxRecDepth 100000 in
set_option maxHeartbeats 4000000 in
theorem c_X4_own (l : Launch) (g : Gh) (q : Nat → Nat) (sz : Nat) (σ : St) (p0 : Nat) (kp0 : kRi p0) {rr : Int32} (hD : D_X4_own σ p0 = some rr) : Met l yX4_own (wU yX4_own cX4_own 1 (some .int)) (rmD 0) (PQ g (eC g q) q 23 σ sz [.ref (q p0)]) (QI g (eC g q) q 23 rr σ sz) 0 0 (AQ q 23 sz) := by
  refine met_of (Qc := QI g (eC g q) q 23 rr σ) (by decide) (Nat.le_of_ble_eq_true rfl) ?_
  intro p e s m below meth c ls X I hl
  have hx := X.1
  have hb := X.2.1
  have hl : lv_has ls 1 [(0, .ref (q p0))] := hl
  unfold D_X4_own at hD
  refine lv_iconst (v := 1) hx hb dX4_own_0 (by decide) ?_
  refine lv_aload_n hx hb dX4_own_1 rfl (lv_at hl 0 rfl) ?_
  refine g_Rider_off X I kp0 fl_X4_18 dX4_own_2 ?_
  refine lv_ishl hx hb dX4_own_5 ?_
  refine lv_iconst (v := 1) hx hb dX4_own_6 (by decide) ?_
  refine lv_aload_n hx hb dX4_own_7 rfl (lv_at hl 0 rfl) ?_
  refine g_Rider_on X I kp0 fl_X4_15 dX4_own_8 ?_
  refine lv_ishl hx hb dX4_own_11 ?_
  refine lv_isub hx hb dX4_own_12 ?_
  exact r_iret X I hD dX4_own_13

/-! YearDeck$Rider.owns(I)Z -/
def D_X4_owns (σ : St) (p0 : Nat) (p1 : Int32) : Option Int32 := (D_X4_own σ p0).bind fun y3 => if (p1 &&& (y3 ^^^ (-1 : Int32))) = 0 then some (1 : Int32) else some (0 : Int32)
set_option maxRecDepth 100000 in
set_option maxHeartbeats 4000000 in
theorem c_X4_owns (l : Launch) (g : Gh) (q : Nat → Nat) (sz : Nat) (σ : St) (p0 : Nat) (p1 : Int32) (kp0 : kRi p0) {rr : Int32} (hD : D_X4_owns σ p0 p1 = some rr) : Met l yX4_owns (wU yX4_owns cX4_owns 2 (some .boolean)) (rmD 1) (PQ g (eC g q) q 23 σ sz [.ref (q p0), .int p1]) (QI g (eC g q) q 23 rr σ sz) 0 0 (AQ q 23 sz) := by
  refine met_of (Qc := QI g (eC g q) q 23 rr σ) (by decide) (Nat.le_of_ble_eq_true rfl) ?_
  intro p e s m below meth c ls X I hl
  have hx := X.1
  have hb := X.2.1
  have hl : lv_has ls 2 [(0, .ref (q p0)), (1, .int p1)] := hl
  unfold D_X4_owns at hD
  refine lv_iload_n hx hb dX4_owns_0 rfl (lv_at hl 1 rfl) ?_
  refine lv_aload_n hx hb dX4_owns_1 rfl (lv_at hl 0 rfl) ?_
  obtain ⟨y3, hy3, hD⟩ := bd_s hD
  refine r_calli (r_runV (As := []) (rest := [.int p1]) X I (c_X4_own l g q _ σ p0 kp0 hy3) kv_X4_own ml_X4_45 rfl (kRi_lt kp0) (eC_Rider g q _ kp0) ⟨Nat.le_of_ble_eq_true rfl, Nat.le_of_ble_eq_true rfl⟩ ⟨Nat.zero_le _, Nat.zero_le _⟩ rfl rfl hl.1 (Nat.le_of_ble_eq_true rfl) dX4_owns_2) I (fun H locs I => ?_)
  refine lv_iconst (v := -1) hx hb dX4_owns_5 (by decide) ?_
  refine lv_ixor hx hb dX4_owns_6 ?_
  refine lv_iand hx hb dX4_owns_7 ?_
  refine lv_if_ne (tgt := 15) hx hb dX4_owns_8 (by decide) (fun hc7 => ?_) (fun hc7 => ?_)
  · have hD := ite_n hc7 hD
    refine lv_iconst (v := 0) hx hb dX4_owns_15 (by decide) ?_
    exact r_zret X I hD rfl dX4_owns_16
  · have hD := ite_p hc7 hD
    refine lv_iconst (v := 1) hx hb dX4_owns_11 (by decide) ?_
    refine lv_goto (tgt := 16) hx hb dX4_owns_12 (by decide) ?_
    exact r_zret X I hD rfl dX4_owns_16

/-! YearDeck$RideText.riderGoesOn(LYearDeck$Sheet;III)Z -/
def D_X3_riderGoesOn (σ : St) (p0 : Nat) (p1 : Int32) (p2 : Int32) (p3 : Int32) : Option Int32 := (D_X5_at σ p0 p1).bind fun y3 => if p2 = (0 : Int32) then if y3 = (59 : Int32) then some (1 : Int32) else some (0 : Int32) else if p2 = (1 : Int32) then (D_X3_kindOf σ y3).bind fun y18 => if y18 = (-9 : Int32) then some (0 : Int32) else some (1 : Int32) else if p2 = (2 : Int32) then (D_X3_isDigit σ y3 (0 : Int32) (p3 - (1 : Int32))).bind fun y32 => gd (isB y32) (some y32) else if p2 = (3 : Int32) then (D_X5_at σ p0 (p1 - (1 : Int32))).bind fun y40 => (D_X3_digit σ y40).bind fun y41 => (D_X3_isDigit σ y3 (y41 + (1 : Int32)) p3).bind fun y45 => gd (isB y45) (some y45) else if p2 = (4 : Int32) then (D_X3_isDigit σ y3 (0 : Int32) (7 : Int32)).bind fun y51 => gd (isB y51) (some y51) else (D_X3_isDigit σ y3 (0 : Int32) (9 : Int32)).bind fun y56 => gd (isB y56) (some y56)
set_option maxRecDepth 100000 in
set_option maxHeartbeats 4000000 in
theorem c_X3_riderGoesOn (l : Launch) (g : Gh) (q : Nat → Nat) (sz : Nat) (σ : St) (p0 : Nat) (p1 : Int32) (p2 : Int32) (p3 : Int32) (kp0 : kSh p0) {rr : Int32} (hD : D_X3_riderGoesOn σ p0 p1 p2 p3 = some rr) : Met l yX3_riderGoesOn (wU yX3_riderGoesOn cX3_riderGoesOn 5 (some .boolean)) (rmD 2) (PQ g (eC g q) q 23 σ sz [.ref (q p0), .int p1, .int p2, .int p3]) (QI g (eC g q) q 23 rr σ sz) 0 0 (AQ q 23 sz) := by
  refine met_of (Qc := QI g (eC g q) q 23 rr σ) (by decide) (Nat.le_of_ble_eq_true rfl) ?_
  intro p e s m below meth c ls X I hl
  have hx := X.1
  have hb := X.2.1
  have hl : lv_has ls 5 [(0, .ref (q p0)), (1, .int p1), (2, .int p2), (3, .int p3)] := hl
  unfold D_X3_riderGoesOn at hD
  refine lv_aload_n hx hb dX3_riderGoesOn_0 rfl (lv_at hl 0 rfl) ?_
  refine lv_iload_n hx hb dX3_riderGoesOn_1 rfl (lv_at hl 1 rfl) ?_
  obtain ⟨y3, hy3, hD⟩ := bd_s hD
  refine r_calli (r_runV (As := [.int p1]) (rest := []) X I (c_X5_at l g q _ σ p0 p1 kp0 hy3) kv_X5_at ml_X3_19 rfl (kSh_lt kp0) (eC_Sheet g q _ kp0) ⟨Nat.le_of_ble_eq_true rfl, Nat.le_of_ble_eq_true rfl⟩ ⟨Nat.zero_le _, Nat.zero_le _⟩ rfl rfl hl.1 (Nat.le_of_ble_eq_true rfl) dX3_riderGoesOn_2) I (fun H locs I => ?_)
  refine lv_istore (lv' := [(4, .int y3), (0, .ref (q p0)), (1, .int p1), (2, .int p2), (3, .int p3)]) hx hb dX3_riderGoesOn_5 hl (by decide) rfl (fun ls hl => ?_)
  refine lv_iload_n hx hb dX3_riderGoesOn_7 rfl (lv_at hl 3 rfl) ?_
  by_cases hc7 : p2 = (0 : Int32)
  · have hD := ite_p hc7 hD
    refine lv_tableIn (off := 36) (tgt := 44) hx hb dX3_riderGoesOn_8 (by rw [hc7]; decide) (by rw [hc7]; decide) (by rw [hc7]; rfl) (by decide) ?_
    refine lv_iload hx hb dX3_riderGoesOn_44 (lv_at hl 0 rfl) ?_
    refine lv_bipush (v := 59) hx hb dX3_riderGoesOn_46 (by decide) ?_
    refine lv_icmp_ne (tgt := 55) hx hb dX3_riderGoesOn_48 (by decide) (fun hc10 => ?_) (fun hc10 => ?_)
    · have hD := ite_n hc10 hD
      refine lv_iconst (v := 0) hx hb dX3_riderGoesOn_55 (by decide) ?_
      exact r_zret X I hD rfl dX3_riderGoesOn_56
    · have hD := ite_p hc10 hD
      refine lv_iconst (v := 1) hx hb dX3_riderGoesOn_51 (by decide) ?_
      refine lv_goto (tgt := 56) hx hb dX3_riderGoesOn_52 (by decide) ?_
      exact r_zret X I hD rfl dX3_riderGoesOn_56
  · have hD := ite_n hc7 hD
    by_cases hc16 : p2 = (1 : Int32)
    · have hD := ite_p hc16 hD
      refine lv_tableIn (off := 49) (tgt := 57) hx hb dX3_riderGoesOn_8 (by rw [hc16]; decide) (by rw [hc16]; decide) (by rw [hc16]; rfl) (by decide) ?_
      refine lv_iload hx hb dX3_riderGoesOn_57 (lv_at hl 0 rfl) ?_
      obtain ⟨y18, hy18, hD⟩ := bd_s hD
      refine r_calli (r_runS (As := [.int y3]) (rest := []) X I (c_X3_kindOf l g q _ σ y3 hy18) ks_X3_kindOf ml_X3_32 ⟨Nat.le_of_ble_eq_true rfl, Nat.le_of_ble_eq_true rfl⟩ ⟨Nat.zero_le _, Nat.zero_le _⟩ rfl rfl hl.1 (Nat.le_of_ble_eq_true rfl) dX3_riderGoesOn_59) I (fun H locs I => ?_)
      refine lv_bipush (v := -9) hx hb dX3_riderGoesOn_62 (by decide) ?_
      refine lv_icmp_eq (tgt := 71) hx hb dX3_riderGoesOn_64 (by decide) (fun hc20 => ?_) (fun hc20 => ?_)
      · have hD := ite_p hc20 hD
        refine lv_iconst (v := 0) hx hb dX3_riderGoesOn_71 (by decide) ?_
        exact r_zret X I hD rfl dX3_riderGoesOn_72
      · have hD := ite_n hc20 hD
        refine lv_iconst (v := 1) hx hb dX3_riderGoesOn_67 (by decide) ?_
        refine lv_goto (tgt := 72) hx hb dX3_riderGoesOn_68 (by decide) ?_
        exact r_zret X I hD rfl dX3_riderGoesOn_72
    · have hD := ite_n hc16 hD
      by_cases hc26 : p2 = (2 : Int32)
      · have hD := ite_p hc26 hD
        refine lv_tableIn (off := 65) (tgt := 73) hx hb dX3_riderGoesOn_8 (by rw [hc26]; decide) (by rw [hc26]; decide) (by rw [hc26]; rfl) (by decide) ?_
        refine lv_iload hx hb dX3_riderGoesOn_73 (lv_at hl 0 rfl) ?_
        refine lv_iconst (v := 0) hx hb dX3_riderGoesOn_75 (by decide) ?_
        refine lv_iload_n hx hb dX3_riderGoesOn_76 rfl (lv_at hl 4 rfl) ?_
        refine lv_iconst (v := 1) hx hb dX3_riderGoesOn_77 (by decide) ?_
        refine lv_isub hx hb dX3_riderGoesOn_78 ?_
        obtain ⟨y32, hy32, hD⟩ := bd_s hD
        refine r_calli (r_runS (As := [.int y3, .int (0 : Int32), .int (p3 - (1 : Int32))]) (rest := []) X I (c_X3_isDigit l g q _ σ y3 (0 : Int32) (p3 - (1 : Int32)) hy32) ks_X3_isDigit ml_X3_25 ⟨Nat.le_of_ble_eq_true rfl, Nat.le_of_ble_eq_true rfl⟩ ⟨Nat.zero_le _, Nat.zero_le _⟩ rfl rfl hl.1 (Nat.le_of_ble_eq_true rfl) dX3_riderGoesOn_79) I (fun H locs I => ?_)
        obtain ⟨hg33, hD⟩ := gd_s hD
        exact r_zret X I hD hg33 dX3_riderGoesOn_82
      · have hD := ite_n hc26 hD
        by_cases hc34 : p2 = (3 : Int32)
        · have hD := ite_p hc34 hD
          refine lv_tableIn (off := 75) (tgt := 83) hx hb dX3_riderGoesOn_8 (by rw [hc34]; decide) (by rw [hc34]; decide) (by rw [hc34]; rfl) (by decide) ?_
          refine lv_iload hx hb dX3_riderGoesOn_83 (lv_at hl 0 rfl) ?_
          refine lv_aload_n hx hb dX3_riderGoesOn_85 rfl (lv_at hl 1 rfl) ?_
          refine lv_iload_n hx hb dX3_riderGoesOn_86 rfl (lv_at hl 2 rfl) ?_
          refine lv_iconst (v := 1) hx hb dX3_riderGoesOn_87 (by decide) ?_
          refine lv_isub hx hb dX3_riderGoesOn_88 ?_
          obtain ⟨y40, hy40, hD⟩ := bd_s hD
          refine r_calli (r_runV (As := [.int (p1 - (1 : Int32))]) (rest := [.int y3]) X I (c_X5_at l g q _ σ p0 (p1 - (1 : Int32)) kp0 hy40) kv_X5_at ml_X3_19 rfl (kSh_lt kp0) (eC_Sheet g q _ kp0) ⟨Nat.le_of_ble_eq_true rfl, Nat.le_of_ble_eq_true rfl⟩ ⟨Nat.zero_le _, Nat.zero_le _⟩ rfl rfl hl.1 (Nat.le_of_ble_eq_true rfl) dX3_riderGoesOn_89) I (fun H locs I => ?_)
          obtain ⟨y41, hy41, hD⟩ := bd_s hD
          refine r_calli (r_runS (As := [.int y40]) (rest := [.int y3]) X I (c_X3_digit l g q _ σ y40 hy41) ks_X3_digit ml_X3_35 ⟨Nat.le_of_ble_eq_true rfl, Nat.le_of_ble_eq_true rfl⟩ ⟨Nat.zero_le _, Nat.zero_le _⟩ rfl rfl hl.1 (Nat.le_of_ble_eq_true rfl) dX3_riderGoesOn_92) I (fun H locs I => ?_)
          refine lv_iconst (v := 1) hx hb dX3_riderGoesOn_95 (by decide) ?_
          refine lv_iadd hx hb dX3_riderGoesOn_96 ?_
          refine lv_iload_n hx hb dX3_riderGoesOn_97 rfl (lv_at hl 4 rfl) ?_
          obtain ⟨y45, hy45, hD⟩ := bd_s hD
          refine r_calli (r_runS (As := [.int y3, .int (y41 + (1 : Int32)), .int p3]) (rest := []) X I (c_X3_isDigit l g q _ σ y3 (y41 + (1 : Int32)) p3 hy45) ks_X3_isDigit ml_X3_25 ⟨Nat.le_of_ble_eq_true rfl, Nat.le_of_ble_eq_true rfl⟩ ⟨Nat.zero_le _, Nat.zero_le _⟩ rfl rfl hl.1 (Nat.le_of_ble_eq_true rfl) dX3_riderGoesOn_98) I (fun H locs I => ?_)
          obtain ⟨hg46, hD⟩ := gd_s hD
          exact r_zret X I hD hg46 dX3_riderGoesOn_101
        · have hD := ite_n hc34 hD
          by_cases hc47 : p2 = (4 : Int32)
          · have hD := ite_p hc47 hD
            refine lv_tableIn (off := 94) (tgt := 102) hx hb dX3_riderGoesOn_8 (by rw [hc47]; decide) (by rw [hc47]; decide) (by rw [hc47]; rfl) (by decide) ?_
            refine lv_iload hx hb dX3_riderGoesOn_102 (lv_at hl 0 rfl) ?_
            refine lv_iconst (v := 0) hx hb dX3_riderGoesOn_104 (by decide) ?_
            refine lv_bipush (v := 7) hx hb dX3_riderGoesOn_105 (by decide) ?_
            obtain ⟨y51, hy51, hD⟩ := bd_s hD
            refine r_calli (r_runS (As := [.int y3, .int (0 : Int32), .int (7 : Int32)]) (rest := []) X I (c_X3_isDigit l g q _ σ y3 (0 : Int32) (7 : Int32) hy51) ks_X3_isDigit ml_X3_25 ⟨Nat.le_of_ble_eq_true rfl, Nat.le_of_ble_eq_true rfl⟩ ⟨Nat.zero_le _, Nat.zero_le _⟩ rfl rfl hl.1 (Nat.le_of_ble_eq_true rfl) dX3_riderGoesOn_107) I (fun H locs I => ?_)
            obtain ⟨hg52, hD⟩ := gd_s hD
            exact r_zret X I hD hg52 dX3_riderGoesOn_110
          · have hD := ite_n hc47 hD
            have ho7 := ne_toInt hc7 (a := 0) (by decide)
            have ho16 := ne_toInt hc16 (a := 1) (by decide)
            have ho26 := ne_toInt hc26 (a := 2) (by decide)
            have ho34 := ne_toInt hc34 (a := 3) (by decide)
            have ho47 := ne_toInt hc47 (a := 4) (by decide)
            refine lv_tableOut (tgt := 111) hx hb dX3_riderGoesOn_8 (by omega) (by decide) ?_
            refine lv_iload hx hb dX3_riderGoesOn_111 (lv_at hl 0 rfl) ?_
            refine lv_iconst (v := 0) hx hb dX3_riderGoesOn_113 (by decide) ?_
            refine lv_bipush (v := 9) hx hb dX3_riderGoesOn_114 (by decide) ?_
            obtain ⟨y56, hy56, hD⟩ := bd_s hD
            refine r_calli (r_runS (As := [.int y3, .int (0 : Int32), .int (9 : Int32)]) (rest := []) X I (c_X3_isDigit l g q _ σ y3 (0 : Int32) (9 : Int32) hy56) ks_X3_isDigit ml_X3_25 ⟨Nat.le_of_ble_eq_true rfl, Nat.le_of_ble_eq_true rfl⟩ ⟨Nat.zero_le _, Nat.zero_le _⟩ rfl rfl hl.1 (Nat.le_of_ble_eq_true rfl) dX3_riderGoesOn_116) I (fun H locs I => ?_)
            obtain ⟨hg57, hD⟩ := gd_s hD
            exact r_zret X I hD hg57 dX3_riderGoesOn_119

/-! YearDeck$RideText.goesOn(LYearDeck$Sheet;III)Z -/
def D_X3_goesOn (σ : St) (p0 : Nat) (p1 : Int32) (p2 : Int32) (p3 : Int32) : Option Int32 := (D_X5_at σ p0 (p1 + p2)).bind fun y5 => if p2 = (0 : Int32) then if y5 = (117 : Int32) then some (1 : Int32) else some (0 : Int32) else if p2 = (1 : Int32) then (D_X3_isDigit σ y5 (0 : Int32) (3 : Int32)).bind fun y22 => gd (isB y22) (some y22) else if p2 = (2 : Int32) then if y5 = (44 : Int32) then some (1 : Int32) else some (0 : Int32) else if ((3 : Int32) + p3) ≤ p2 then if p3 = 0 then some (0 : Int32) else if ((p2 - (3 : Int32)) - p3) < (32 : Int32) then (D_X3_riderGoesOn σ p0 (p1 + p2) (((p2 - (3 : Int32)) - p3) - ((p2 - (3 : Int32)) - p3) / (8 : Int32) * (8 : Int32)) p3).bind fun y59 => gd (isB y59) (some y59) else some (0 : Int32) else some (1 : Int32)
set_option maxRecDepth 100000 in
set_option maxHeartbeats 4000000 in
theorem c_X3_goesOn (l : Launch) (g : Gh) (q : Nat → Nat) (sz : Nat) (σ : St) (p0 : Nat) (p1 : Int32) (p2 : Int32) (p3 : Int32) (kp0 : kSh p0) {rr : Int32} (hD : D_X3_goesOn σ p0 p1 p2 p3 = some rr) : Met l yX3_goesOn (wU yX3_goesOn cX3_goesOn 6 (some .boolean)) (rmD 3) (PQ g (eC g q) q 23 σ sz [.ref (q p0), .int p1, .int p2, .int p3]) (QI g (eC g q) q 23 rr σ sz) 0 0 (AQ q 23 sz) := by
  refine met_of (Qc := QI g (eC g q) q 23 rr σ) (by decide) (Nat.le_of_ble_eq_true rfl) ?_
  intro p e s m below meth c ls X I hl
  have hx := X.1
  have hb := X.2.1
  have hl : lv_has ls 6 [(0, .ref (q p0)), (1, .int p1), (2, .int p2), (3, .int p3)] := hl
  unfold D_X3_goesOn at hD
  refine lv_aload_n hx hb dX3_goesOn_0 rfl (lv_at hl 0 rfl) ?_
  refine lv_iload_n hx hb dX3_goesOn_1 rfl (lv_at hl 1 rfl) ?_
  refine lv_iload_n hx hb dX3_goesOn_2 rfl (lv_at hl 2 rfl) ?_
  refine lv_iadd hx hb dX3_goesOn_3 ?_
  obtain ⟨y5, hy5, hD⟩ := bd_s hD
  refine r_calli (r_runV (As := [.int (p1 + p2)]) (rest := []) X I (c_X5_at l g q _ σ p0 (p1 + p2) kp0 hy5) kv_X5_at ml_X3_19 rfl (kSh_lt kp0) (eC_Sheet g q _ kp0) ⟨Nat.le_of_ble_eq_true rfl, Nat.le_of_ble_eq_true rfl⟩ ⟨Nat.zero_le _, Nat.zero_le _⟩ rfl rfl hl.1 (Nat.le_of_ble_eq_true rfl) dX3_goesOn_4) I (fun H locs I => ?_)
  refine lv_istore (lv' := [(4, .int y5), (0, .ref (q p0)), (1, .int p1), (2, .int p2), (3, .int p3)]) hx hb dX3_goesOn_7 hl (by decide) rfl (fun ls hl => ?_)
  refine lv_iload_n hx hb dX3_goesOn_9 rfl (lv_at hl 3 rfl) ?_
  by_cases hc9 : p2 = (0 : Int32)
  · have hD := ite_p hc9 hD
    refine lv_tableIn (off := 26) (tgt := 36) hx hb dX3_goesOn_10 (by rw [hc9]; decide) (by rw [hc9]; decide) (by rw [hc9]; rfl) (by decide) ?_
    refine lv_iload hx hb dX3_goesOn_36 (lv_at hl 0 rfl) ?_
    refine lv_bipush (v := 117) hx hb dX3_goesOn_38 (by decide) ?_
    refine lv_icmp_ne (tgt := 47) hx hb dX3_goesOn_40 (by decide) (fun hc12 => ?_) (fun hc12 => ?_)
    · have hD := ite_n hc12 hD
      refine lv_iconst (v := 0) hx hb dX3_goesOn_47 (by decide) ?_
      exact r_zret X I hD rfl dX3_goesOn_48
    · have hD := ite_p hc12 hD
      refine lv_iconst (v := 1) hx hb dX3_goesOn_43 (by decide) ?_
      refine lv_goto (tgt := 48) hx hb dX3_goesOn_44 (by decide) ?_
      exact r_zret X I hD rfl dX3_goesOn_48
  · have hD := ite_n hc9 hD
    by_cases hc18 : p2 = (1 : Int32)
    · have hD := ite_p hc18 hD
      refine lv_tableIn (off := 39) (tgt := 49) hx hb dX3_goesOn_10 (by rw [hc18]; decide) (by rw [hc18]; decide) (by rw [hc18]; rfl) (by decide) ?_
      refine lv_iload hx hb dX3_goesOn_49 (lv_at hl 0 rfl) ?_
      refine lv_iconst (v := 0) hx hb dX3_goesOn_51 (by decide) ?_
      refine lv_iconst (v := 3) hx hb dX3_goesOn_52 (by decide) ?_
      obtain ⟨y22, hy22, hD⟩ := bd_s hD
      refine r_calli (r_runS (As := [.int y5, .int (0 : Int32), .int (3 : Int32)]) (rest := []) X I (c_X3_isDigit l g q _ σ y5 (0 : Int32) (3 : Int32) hy22) ks_X3_isDigit ml_X3_25 ⟨Nat.le_of_ble_eq_true rfl, Nat.le_of_ble_eq_true rfl⟩ ⟨Nat.zero_le _, Nat.zero_le _⟩ rfl rfl hl.1 (Nat.le_of_ble_eq_true rfl) dX3_goesOn_53) I (fun H locs I => ?_)
      obtain ⟨hg23, hD⟩ := gd_s hD
      exact r_zret X I hD hg23 dX3_goesOn_56
    · have hD := ite_n hc18 hD
      by_cases hc24 : p2 = (2 : Int32)
      · have hD := ite_p hc24 hD
        refine lv_tableIn (off := 47) (tgt := 57) hx hb dX3_goesOn_10 (by rw [hc24]; decide) (by rw [hc24]; decide) (by rw [hc24]; rfl) (by decide) ?_
        refine lv_iload hx hb dX3_goesOn_57 (lv_at hl 0 rfl) ?_
        refine lv_bipush (v := 44) hx hb dX3_goesOn_59 (by decide) ?_
        refine lv_icmp_ne (tgt := 68) hx hb dX3_goesOn_61 (by decide) (fun hc27 => ?_) (fun hc27 => ?_)
        · have hD := ite_n hc27 hD
          refine lv_iconst (v := 0) hx hb dX3_goesOn_68 (by decide) ?_
          exact r_zret X I hD rfl dX3_goesOn_69
        · have hD := ite_p hc27 hD
          refine lv_iconst (v := 1) hx hb dX3_goesOn_64 (by decide) ?_
          refine lv_goto (tgt := 69) hx hb dX3_goesOn_65 (by decide) ?_
          exact r_zret X I hD rfl dX3_goesOn_69
      · have hD := ite_n hc24 hD
        have ho9 := ne_toInt hc9 (a := 0) (by decide)
        have ho18 := ne_toInt hc18 (a := 1) (by decide)
        have ho24 := ne_toInt hc24 (a := 2) (by decide)
        refine lv_tableOut (tgt := 70) hx hb dX3_goesOn_10 (by omega) (by decide) ?_
        refine lv_iload_n hx hb dX3_goesOn_70 rfl (lv_at hl 3 rfl) ?_
        refine lv_iconst (v := 3) hx hb dX3_goesOn_71 (by decide) ?_
        refine lv_iload_n hx hb dX3_goesOn_72 rfl (lv_at hl 4 rfl) ?_
        refine lv_iadd hx hb dX3_goesOn_73 ?_
        refine lv_icmp_ge (tgt := 79) hx hb dX3_goesOn_74 (by decide) (fun hc37 => ?_) (fun hc37 => ?_)
        · have hD := ite_p hc37 hD
          refine lv_iload_n hx hb dX3_goesOn_79 rfl (lv_at hl 3 rfl) ?_
          refine lv_iconst (v := 3) hx hb dX3_goesOn_80 (by decide) ?_
          refine lv_isub hx hb dX3_goesOn_81 ?_
          refine lv_iload_n hx hb dX3_goesOn_82 rfl (lv_at hl 4 rfl) ?_
          refine lv_isub hx hb dX3_goesOn_83 ?_
          refine lv_istore (lv' := [(5, .int ((p2 - (3 : Int32)) - p3)), (4, .int y5), (0, .ref (q p0)), (1, .int p1), (2, .int p2), (3, .int p3)]) hx hb dX3_goesOn_84 hl (by decide) rfl (fun ls hl => ?_)
          refine lv_iload_n hx hb dX3_goesOn_86 rfl (lv_at hl 5 rfl) ?_
          refine lv_if_eq (tgt := 97) hx hb dX3_goesOn_87 (by decide) (fun hc45 => ?_) (fun hc45 => ?_)
          · have hD := ite_p hc45 hD
            refine lv_iconst (v := 0) hx hb dX3_goesOn_97 (by decide) ?_
            exact r_zret X I hD rfl dX3_goesOn_98
          · have hD := ite_n hc45 hD
            refine lv_iload hx hb dX3_goesOn_90 (lv_at hl 0 rfl) ?_
            refine lv_bipush (v := 32) hx hb dX3_goesOn_92 (by decide) ?_
            refine lv_icmp_lt (tgt := 99) hx hb dX3_goesOn_94 (by decide) (fun hc50 => ?_) (fun hc50 => ?_)
            · have hD := ite_p hc50 hD
              refine lv_aload_n hx hb dX3_goesOn_99 rfl (lv_at hl 2 rfl) ?_
              refine lv_iload_n hx hb dX3_goesOn_100 rfl (lv_at hl 3 rfl) ?_
              refine lv_iload_n hx hb dX3_goesOn_101 rfl (lv_at hl 4 rfl) ?_
              refine lv_iadd hx hb dX3_goesOn_102 ?_
              refine lv_iload hx hb dX3_goesOn_103 (lv_at hl 0 rfl) ?_
              refine lv_bipush (v := 8) hx hb dX3_goesOn_105 (by decide) ?_
              refine lv_irem hx hb dX3_goesOn_107 (by decide) ?_
              refine lv_iload_n hx hb dX3_goesOn_108 rfl (lv_at hl 5 rfl) ?_
              obtain ⟨y59, hy59, hD⟩ := bd_s hD
              refine r_calli (r_runS (As := [.ref (q p0), .int (p1 + p2), .int (((p2 - (3 : Int32)) - p3) - ((p2 - (3 : Int32)) - p3) / (8 : Int32) * (8 : Int32)), .int p3]) (rest := []) X I (c_X3_riderGoesOn l g q _ σ p0 (p1 + p2) (((p2 - (3 : Int32)) - p3) - ((p2 - (3 : Int32)) - p3) / (8 : Int32) * (8 : Int32)) p3 kp0 hy59) ks_X3_riderGoesOn ml_X3_29 ⟨Nat.le_of_ble_eq_true rfl, Nat.le_of_ble_eq_true rfl⟩ ⟨Nat.zero_le _, Nat.zero_le _⟩ rfl rfl hl.1 (Nat.le_of_ble_eq_true rfl) dX3_goesOn_109) I (fun H locs I => ?_)
              obtain ⟨hg60, hD⟩ := gd_s hD
              exact r_zret X I hD hg60 dX3_goesOn_112
            · have hD := ite_n hc50 hD
              refine lv_iconst (v := 0) hx hb dX3_goesOn_97 (by decide) ?_
              exact r_zret X I hD rfl dX3_goesOn_98
        · have hD := ite_n hc37 hD
          refine lv_iconst (v := 1) hx hb dX3_goesOn_77 (by decide) ?_
          exact r_zret X I hD rfl dX3_goesOn_78

/-! YearDeck$RideText.firstFault(LYearDeck$Sheet;II)I -/
def D_X3_firstFault_65 (σ : St) (v2 : Int32) (t0 : Int32) : Option Int32 := if t0 = 0 then some v2 else some (-9 : Int32)
set_option maxRecDepth 100000 in
set_option maxHeartbeats 4000000 in
theorem w_X3_firstFault_65 {p : Program} {l : Launch} {e : Env} {s : State} {m : MethodId} {args : Array Value} {below : List Frame} {meth : Method} {c : Code} (g : Gh) (q : Nat → Nat) (X : MX p s m args meth c cX3_firstFault 6 (some .int) RX3) {rr : Int32} (σ : St)  (v2 : Int32) (t0 : Int32) (hD : D_X3_firstFault_65 σ v2 t0 = some rr) (H : Heap) (locs : List Loc) (ls : Array Slot) (I : IC g q s σ H locs) (hl : lv_has ls 6 [(2, .int v2)]) : W p l e (rmD 4) s m args below meth c H locs 0 0 (MQ below (QI g (eC g q) q 23 rr σ s.heap.size) args s 0 0 (AQ q 23 s.heap.size)) (F0 m 65 ls [.int t0]) := by
  have hx := X.1
  have hb := X.2.1
  unfold D_X3_firstFault_65 at hD
  refine lv_istore (lv' := [(5, .int t0), (2, .int v2)]) hx hb dX3_firstFault_65 hl (by decide) rfl (fun ls hl => ?_)
  refine lv_iload hx hb dX3_firstFault_67 (lv_at hl 0 rfl) ?_
  refine lv_if_eq (tgt := 77) hx hb dX3_firstFault_69 (by decide) (fun hc40 => ?_) (fun hc40 => ?_)
  · have hD := ite_p hc40 hD
    refine lv_iload_n hx hb dX3_firstFault_77 rfl (lv_at hl 1 rfl) ?_
    exact r_iret X I hD dX3_firstFault_78
  · have hD := ite_n hc40 hD
    refine lv_bipush (v := -9) hx hb dX3_firstFault_72 (by decide) ?_
    refine lv_goto (tgt := 78) hx hb dX3_firstFault_74 (by decide) ?_
    exact r_iret X I hD dX3_firstFault_78
def D_X3_firstFault_64 (σ : St) (v2 : Int32) : Option Int32 := D_X3_firstFault_65 σ v2 (0 : Int32)
set_option maxRecDepth 100000 in
set_option maxHeartbeats 4000000 in
theorem w_X3_firstFault_64 {p : Program} {l : Launch} {e : Env} {s : State} {m : MethodId} {args : Array Value} {below : List Frame} {meth : Method} {c : Code} (g : Gh) (q : Nat → Nat) (X : MX p s m args meth c cX3_firstFault 6 (some .int) RX3) {rr : Int32} (σ : St)  (v2 : Int32) (hD : D_X3_firstFault_64 σ v2 = some rr) (H : Heap) (locs : List Loc) (ls : Array Slot) (I : IC g q s σ H locs) (hl : lv_has ls 6 [(2, .int v2)]) : W p l e (rmD 4) s m args below meth c H locs 0 0 (MQ below (QI g (eC g q) q 23 rr σ s.heap.size) args s 0 0 (AQ q 23 s.heap.size)) (F0 m 64 ls []) := by
  have hx := X.1
  have hb := X.2.1
  unfold D_X3_firstFault_64 at hD
  refine lv_iconst (v := 0) hx hb dX3_firstFault_64 (by decide) ?_
  exact w_X3_firstFault_65 g q X σ v2 (0 : Int32) hD _ _ _ I (lv_sub hl [0] rfl)
def D_X3_firstFault_36 (σ : St) (v2 : Int32) (v3 : Int32) : Option Int32 := if v3 ≤ 0 then D_X3_firstFault_64 σ v2 else if ((v2 - (3 : Int32)) - v3) ≤ 0 then D_X3_firstFault_64 σ v2 else if (((v2 - (3 : Int32)) - v3) - ((v2 - (3 : Int32)) - v3) / (8 : Int32) * (8 : Int32)) = 0 then D_X3_firstFault_65 σ v2 (1 : Int32) else D_X3_firstFault_64 σ v2
set_option maxRecDepth 100000 in
set_option maxHeartbeats 4000000 in
theorem w_X3_firstFault_36 {p : Program} {l : Launch} {e : Env} {s : State} {m : MethodId} {args : Array Value} {below : List Frame} {meth : Method} {c : Code} (g : Gh) (q : Nat → Nat) (X : MX p s m args meth c cX3_firstFault 6 (some .int) RX3) {rr : Int32} (σ : St)  (v2 : Int32) (v3 : Int32) (hD : D_X3_firstFault_36 σ v2 v3 = some rr) (H : Heap) (locs : List Loc) (ls : Array Slot) (I : IC g q s σ H locs) (hl : lv_has ls 6 [(2, .int v2), (3, .int v3)]) : W p l e (rmD 4) s m args below meth c H locs 0 0 (MQ below (QI g (eC g q) q 23 rr σ s.heap.size) args s 0 0 (AQ q 23 s.heap.size)) (F0 m 36 ls []) := by
  have hx := X.1
  have hb := X.2.1
  unfold D_X3_firstFault_36 at hD
  refine lv_iload_n hx hb dX3_firstFault_36 rfl (lv_at hl 0 rfl) ?_
  refine lv_iconst (v := 3) hx hb dX3_firstFault_37 (by decide) ?_
  refine lv_isub hx hb dX3_firstFault_38 ?_
  refine lv_iload_n hx hb dX3_firstFault_39 rfl (lv_at hl 1 rfl) ?_
  refine lv_isub hx hb dX3_firstFault_40 ?_
  refine lv_istore (lv' := [(4, .int ((v2 - (3 : Int32)) - v3)), (2, .int v2), (3, .int v3)]) hx hb dX3_firstFault_41 hl (by decide) rfl (fun ls hl => ?_)
  refine lv_iload_n hx hb dX3_firstFault_43 rfl (lv_at hl 2 rfl) ?_
  refine lv_if_le (tgt := 64) hx hb dX3_firstFault_44 (by decide) (fun hc28 => ?_) (fun hc28 => ?_)
  · have hD := ite_p hc28 hD
    exact w_X3_firstFault_64 g q X σ v2 hD _ _ _ I (lv_sub hl [1] rfl)
  · have hD := ite_n hc28 hD
    refine lv_iload hx hb dX3_firstFault_47 (lv_at hl 0 rfl) ?_
    refine lv_if_le (tgt := 64) hx hb dX3_firstFault_49 (by decide) (fun hc30 => ?_) (fun hc30 => ?_)
    · have hD := ite_p hc30 hD
      exact w_X3_firstFault_64 g q X σ v2 hD _ _ _ I (lv_sub hl [1] rfl)
    · have hD := ite_n hc30 hD
      refine lv_iload hx hb dX3_firstFault_52 (lv_at hl 0 rfl) ?_
      refine lv_bipush (v := 8) hx hb dX3_firstFault_54 (by decide) ?_
      refine lv_irem hx hb dX3_firstFault_56 (by decide) ?_
      refine lv_if_ne (tgt := 64) hx hb dX3_firstFault_57 (by decide) (fun hc34 => ?_) (fun hc34 => ?_)
      · have hD := ite_n hc34 hD
        exact w_X3_firstFault_64 g q X σ v2 hD _ _ _ I (lv_sub hl [1] rfl)
      · have hD := ite_p hc34 hD
        refine lv_iconst (v := 1) hx hb dX3_firstFault_60 (by decide) ?_
        refine lv_goto (tgt := 65) hx hb dX3_firstFault_61 (by decide) ?_
        exact w_X3_firstFault_65 g q X σ v2 (1 : Int32) hD _ _ _ I (lv_sub hl [1] rfl)
def D_X3_firstFault_10b (σ : St) (rc10 : Int32 → Option Int32) (v0 : Nat) (v1 : Int32) (v2 : Int32) (v3 : Int32) (v4 : Int32) : Option Int32 := if v2 ≤ v4 then D_X3_firstFault_36 σ v2 v3 else (D_X3_goesOn σ v0 v1 v4 v3).bind fun y15 => if y15 = 0 then some v4 else rc10 (v4 + (1 : Int32))
set_option maxRecDepth 100000 in
set_option maxHeartbeats 4000000 in
theorem w_X3_firstFault_10b {p : Program} {l : Launch} {e : Env} {s : State} {m : MethodId} {args : Array Value} {below : List Frame} {meth : Method} {c : Code} (g : Gh) (q : Nat → Nat) (X : MX p s m args meth c cX3_firstFault 6 (some .int) RX3) {rr : Int32} (σ : St)  (v0 : Nat) (v1 : Int32) (v2 : Int32) (v3 : Int32) (v4 : Int32) (kv0 : kSh v0) (rc10 : Int32 → Option Int32) (hrc10 : ∀ (v4' : Int32), rc10 v4' = some rr → ∀ (H : Heap) (locs : List Loc) (ls : Array Slot), IC g q s σ H locs → lv_has ls 6 [(0, .ref (q v0)), (1, .int v1), (2, .int v2), (3, .int v3), (4, .int v4')] → W p l e (rmD 4) s m args below meth c H locs 0 0 (MQ below (QI g (eC g q) q 23 rr σ s.heap.size) args s 0 0 (AQ q 23 s.heap.size)) (F0 m 10 ls [])) (hD : D_X3_firstFault_10b σ rc10 v0 v1 v2 v3 v4 = some rr) (H : Heap) (locs : List Loc) (ls : Array Slot) (I : IC g q s σ H locs) (hl : lv_has ls 6 [(0, .ref (q v0)), (1, .int v1), (2, .int v2), (3, .int v3), (4, .int v4)]) : W p l e (rmD 4) s m args below meth c H locs 0 0 (MQ below (QI g (eC g q) q 23 rr σ s.heap.size) args s 0 0 (AQ q 23 s.heap.size)) (F0 m 10 ls []) := by
  have hx := X.1
  have hb := X.2.1
  unfold D_X3_firstFault_10b at hD
  refine lv_iload hx hb dX3_firstFault_10 (lv_at hl 4 rfl) ?_
  refine lv_iload_n hx hb dX3_firstFault_12 rfl (lv_at hl 2 rfl) ?_
  refine lv_icmp_ge (tgt := 36) hx hb dX3_firstFault_13 (by decide) (fun hc10 => ?_) (fun hc10 => ?_)
  · have hD := ite_p hc10 hD
    exact w_X3_firstFault_36 g q X σ v2 v3 hD _ _ _ I (lv_sub hl [2, 3] rfl)
  · have hD := ite_n hc10 hD
    refine lv_aload_n hx hb dX3_firstFault_16 rfl (lv_at hl 0 rfl) ?_
    refine lv_iload_n hx hb dX3_firstFault_17 rfl (lv_at hl 1 rfl) ?_
    refine lv_iload hx hb dX3_firstFault_18 (lv_at hl 4 rfl) ?_
    refine lv_iload_n hx hb dX3_firstFault_20 rfl (lv_at hl 3 rfl) ?_
    obtain ⟨y15, hy15, hD⟩ := bd_s hD
    refine r_calli (r_runS (As := [.ref (q v0), .int v1, .int v4, .int v3]) (rest := []) X I (c_X3_goesOn l g q _ σ v0 v1 v4 v3 kv0 hy15) ks_X3_goesOn ml_X3_15 ⟨Nat.le_of_ble_eq_true rfl, Nat.le_of_ble_eq_true rfl⟩ ⟨Nat.zero_le _, Nat.zero_le _⟩ rfl rfl hl.1 (Nat.le_of_ble_eq_true rfl) dX3_firstFault_21) I (fun H locs I => ?_)
    refine lv_if_ne (tgt := 30) hx hb dX3_firstFault_24 (by decide) (fun hc16 => ?_) (fun hc16 => ?_)
    · have hD := ite_n hc16 hD
      refine lv_iinc (v := v4 + (1 : Int32)) (lv' := [(4, .int (v4 + (1 : Int32))), (0, .ref (q v0)), (1, .int v1), (2, .int v2), (3, .int v3)]) hx hb dX3_firstFault_30 hl (k := 4) rfl rfl (by decide) rfl (fun ls hl => ?_)
      refine lv_goto (tgt := 10) hx hb dX3_firstFault_33 (by decide) ?_
      exact hrc10 (v4 + (1 : Int32)) hD _ _ _ I (lv_sub hl [1, 2, 3, 4, 0] rfl)
    · have hD := ite_p hc16 hD
      refine lv_iload hx hb dX3_firstFault_27 (lv_at hl 4 rfl) ?_
      exact r_iret X I hD dX3_firstFault_29
def D_X3_firstFault_10 (σ : St) (v0 : Nat) (v1 : Int32) (v2 : Int32) (v3 : Int32) : Nat → Int32 → Option Int32
  | 0 => fun _ => none
  | n + 1 => fun v4 => D_X3_firstFault_10b σ (D_X3_firstFault_10 σ v0 v1 v2 v3 n) v0 v1 v2 v3 v4
set_option maxRecDepth 100000 in
set_option maxHeartbeats 4000000 in
theorem w_X3_firstFault_10 {p : Program} {l : Launch} {e : Env} {s : State} {m : MethodId} {args : Array Value} {below : List Frame} {meth : Method} {c : Code} (g : Gh) (q : Nat → Nat) (X : MX p s m args meth c cX3_firstFault 6 (some .int) RX3) {rr : Int32} (σ : St)  (v0 : Nat) (v1 : Int32) (v2 : Int32) (v3 : Int32) (kv0 : kSh v0) : ∀ (n : Nat) (v4 : Int32), D_X3_firstFault_10 σ v0 v1 v2 v3 n v4 = some rr → ∀ (H : Heap) (locs : List Loc) (ls : Array Slot), IC g q s σ H locs → lv_has ls 6 [(0, .ref (q v0)), (1, .int v1), (2, .int v2), (3, .int v3), (4, .int v4)] → W p l e (rmD 4) s m args below meth c H locs 0 0 (MQ below (QI g (eC g q) q 23 rr σ s.heap.size) args s 0 0 (AQ q 23 s.heap.size)) (F0 m 10 ls []) := by
  intro n
  induction n with
  | zero =>
    intro v4 hD H locs ls I hl
    cases hD
  | succ n ih =>
    intro v4 hD H locs ls I hl
    exact w_X3_firstFault_10b g q X σ v0 v1 v2 v3 v4 kv0 _ ih hD H locs ls I hl
def D_X3_firstFault (σ : St) (p0 : Nat) (p1 : Int32) (p2 : Int32) : Option Int32 := (D_X3_sectionsTold σ p0 p1 p2).bind fun y4 => D_X3_firstFault_10 σ p0 p1 p2 y4 FU (0 : Int32)
set_option maxRecDepth 100000 in
set_option maxHeartbeats 4000000 in
theorem c_X3_firstFault (l : Launch) (g : Gh) (q : Nat → Nat) (sz : Nat) (σ : St) (p0 : Nat) (p1 : Int32) (p2 : Int32) (kp0 : kSh p0) {rr : Int32} (hD : D_X3_firstFault σ p0 p1 p2 = some rr) : Met l yX3_firstFault (wU yX3_firstFault cX3_firstFault 6 (some .int)) (rmD 4) (PQ g (eC g q) q 23 σ sz [.ref (q p0), .int p1, .int p2]) (QI g (eC g q) q 23 rr σ sz) 0 0 (AQ q 23 sz) := by
  refine met_of (Qc := QI g (eC g q) q 23 rr σ) (by decide) (Nat.le_of_ble_eq_true rfl) ?_
  intro p e s m below meth c ls X I hl
  have hx := X.1
  have hb := X.2.1
  have hl : lv_has ls 6 [(0, .ref (q p0)), (1, .int p1), (2, .int p2)] := hl
  unfold D_X3_firstFault at hD
  refine lv_aload_n hx hb dX3_firstFault_0 rfl (lv_at hl 0 rfl) ?_
  refine lv_iload_n hx hb dX3_firstFault_1 rfl (lv_at hl 1 rfl) ?_
  refine lv_iload_n hx hb dX3_firstFault_2 rfl (lv_at hl 2 rfl) ?_
  obtain ⟨y4, hy4, hD⟩ := bd_s hD
  refine r_calli (r_runS (As := [.ref (q p0), .int p1, .int p2]) (rest := []) X I (c_X3_sectionsTold l g q _ σ p0 p1 p2 kp0 hy4) ks_X3_sectionsTold ml_X3_9 ⟨Nat.le_of_ble_eq_true rfl, Nat.le_of_ble_eq_true rfl⟩ ⟨Nat.zero_le _, Nat.zero_le _⟩ rfl rfl hl.1 (Nat.le_of_ble_eq_true rfl) dX3_firstFault_3) I (fun H locs I => ?_)
  refine lv_istore_n (lv' := [(3, .int y4), (0, .ref (q p0)), (1, .int p1), (2, .int p2)]) hx hb dX3_firstFault_6 rfl hl (by decide) rfl (fun ls hl => ?_)
  refine lv_iconst (v := 0) hx hb dX3_firstFault_7 (by decide) ?_
  refine lv_istore (lv' := [(4, .int (0 : Int32)), (3, .int y4), (0, .ref (q p0)), (1, .int p1), (2, .int p2)]) hx hb dX3_firstFault_8 hl (by decide) rfl (fun ls hl => ?_)
  exact w_X3_firstFault_10 g q X σ p0 p1 p2 y4 kp0 FU (0 : Int32) hD _ _ _ I (lv_sub hl [2, 3, 4, 1, 0] rfl)
