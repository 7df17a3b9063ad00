/-! YearDeck.most()I -/
def D_X6_most (σ : St) : Option (Int32 × St) := (D_X2_isTold σ).bind fun y3 => if y3 = 0 then some ((-3 : Int32), σ) else (D_X2_mostRight σ).bind fun y9 => some (y9.1, y9.2)
set_option maxRecDepth 100000 in
set_option maxHeartbeats 4000000 in
theorem c_X6_most (l : Launch) (g : Gh) (q : Nat → Nat) (sz : Nat) (σ : St) {rr : (Int32 × St)} (hD : D_X6_most σ = some rr) : Met l yX6_most (wU yX6_most cX6_most 1 (some .int)) (rmD 10) (PQ g (eC g q) q 23 σ sz [.ref (q 0)]) (QI g (eC g q) q 23 rr.1 rr.2 sz) 0 0 (AQ q 23 sz) := by
  refine met_of (Qc := QI g (eC g q) q 23 rr.1 rr.2) (by decide) (Nat.le_of_ble_eq_true rfl) ?_
  intro p e s m below meth c ls X I hl
  have hx := X.1
  have hb := X.2.1
  have hl : lv_has ls 1 [(0, .ref (q 0))] := hl
  unfold D_X6_most at hD
  refine lv_aload_n hx hb dX6_most_0 rfl (lv_at hl 0 rfl) ?_
  refine g_YearDeck_trip X I fl_X6_12 dX6_most_1 ?_
  obtain ⟨y3, hy3, hD⟩ := bd_s hD
  refine r_calli (r_runV (As := []) (rest := []) X I (c_X2_isTold l g q _ σ hy3) kv_X2_isTold ml_X6_110 rfl (by decide) (eC_Ride g q _) ⟨Nat.le_of_ble_eq_true rfl, Nat.le_of_ble_eq_true rfl⟩ ⟨Nat.zero_le _, Nat.zero_le _⟩ rfl rfl hl.1 (Nat.le_of_ble_eq_true rfl) dX6_most_4) I (fun H locs I => ?_)
  refine lv_if_eq (tgt := 20) hx hb dX6_most_7 (by decide) (fun hc4 => ?_) (fun hc4 => ?_)
  · have hD := ite_p hc4 hD
    refine lv_bipush (v := -3) hx hb dX6_most_20 (by decide) ?_
    exact r_iret2 X I hD dX6_most_22
  · have hD := ite_n hc4 hD
    refine lv_aload_n hx hb dX6_most_10 rfl (lv_at hl 0 rfl) ?_
    refine g_YearDeck_trip X I fl_X6_12 dX6_most_11 ?_
    obtain ⟨y9, hy9, hD⟩ := bd_s hD
    refine r_calli (r_runV (As := []) (rest := []) X I (c_X2_mostRight l g q _ σ hy9) kv_X2_mostRight ml_X6_179 rfl (by decide) (eC_Ride g q _) ⟨Nat.le_of_ble_eq_true rfl, Nat.le_of_ble_eq_true rfl⟩ ⟨Nat.zero_le _, Nat.zero_le _⟩ rfl rfl hl.1 (Nat.le_of_ble_eq_true rfl) dX6_most_14) I (fun H locs I => ?_)
    refine lv_goto (tgt := 22) hx hb dX6_most_17 (by decide) ?_
    exact r_iret2 X I hD dX6_most_22

/-! YearDeck.reading(III)I -/
def D_X6_reading (σ : St) (p1 : Int32) (p2 : Int32) (p3 : Int32) : Option (Int32 × St) := (D_X2_hasRider σ p1).bind fun y4 => if y4 = 0 then some ((-1 : Int32), σ) else gd (inb p1 4) ((D_X4_owns σ (5 + p1.toNatClampNeg) p2).bind fun y12 => if y12 = 0 then some ((-2 : Int32), σ) else (D_X6_within σ p3 (199 : Int32)).bind fun y18 => if y18 = 0 then some ((-2 : Int32), σ) else if (σ 9 3) < (8 : Int32) then (D_X1_append σ p1 p2 p3).bind fun y30 => some ((y30 9 3) - (1 : Int32), y30) else some ((-4 : Int32), σ))
set_option maxRecDepth 100000 in
set_option maxHeartbeats 4000000 in
theorem c_X6_reading (l : Launch) (g : Gh) (q : Nat → Nat) (sz : Nat) (σ : St) (p1 : Int32) (p2 : Int32) (p3 : Int32) {rr : (Int32 × St)} (hD : D_X6_reading σ p1 p2 p3 = some rr) : Met l yX6_reading (wU yX6_reading cX6_reading 4 (some .int)) (rmD 2) (PQ g (eC g q) q 23 σ sz [.ref (q 0), .int p1, .int p2, .int p3]) (QI g (eC g q) q 23 rr.1 rr.2 sz) 0 0 (AQ q 23 sz) := by
  refine met_of (Qc := QI g (eC g q) q 23 rr.1 rr.2) (by decide) (Nat.le_of_ble_eq_true rfl) ?_
  intro p e s m below meth c ls X I hl
  have hx := X.1
  have hb := X.2.1
  have hl : lv_has ls 4 [(0, .ref (q 0)), (1, .int p1), (2, .int p2), (3, .int p3)] := hl
  unfold D_X6_reading at hD
  refine lv_aload_n hx hb dX6_reading_0 rfl (lv_at hl 0 rfl) ?_
  refine g_YearDeck_trip X I fl_X6_12 dX6_reading_1 ?_
  refine lv_iload_n hx hb dX6_reading_4 rfl (lv_at hl 1 rfl) ?_
  obtain ⟨y4, hy4, hD⟩ := bd_s hD
  refine r_calli (r_runV (As := [.int p1]) (rest := []) X I (c_X2_hasRider l g q _ σ p1 hy4) kv_X2_hasRider ml_X6_72 rfl (by decide) (eC_Ride g q _) ⟨Nat.le_of_ble_eq_true rfl, Nat.le_of_ble_eq_true rfl⟩ ⟨Nat.zero_le _, Nat.zero_le _⟩ rfl rfl hl.1 (Nat.le_of_ble_eq_true rfl) dX6_reading_5) I (fun H locs I => ?_)
  refine lv_if_ne (tgt := 13) hx hb dX6_reading_8 (by decide) (fun hc5 => ?_) (fun hc5 => ?_)
  · have hD := ite_n hc5 hD
    refine lv_aload_n hx hb dX6_reading_13 rfl (lv_at hl 0 rfl) ?_
    refine g_YearDeck_trip X I fl_X6_12 dX6_reading_14 ?_
    refine g_Ride_riders X I fl_X6_75 dX6_reading_17 ?_
    refine lv_iload_n hx hb dX6_reading_20 rfl (lv_at hl 1 rfl) ?_
    obtain ⟨hg10, hD⟩ := gd_s hD
    refine r_aald (t0 := 2) X I (by decide) rfl (eCr_3 g q _) hg10 dX6_reading_21 ?_
    refine lv_iload_n hx hb dX6_reading_22 rfl (lv_at hl 2 rfl) ?_
    obtain ⟨y12, hy12, hD⟩ := bd_s hD
    refine r_calli (r_runV (As := [.int p2]) (rest := []) X I (c_X4_owns l g q _ σ (5 + p1.toNatClampNeg) p2 (kRi_of hg10) hy12) kv_X4_owns ml_X6_120 rfl (kRi_lt (kRi_of hg10)) (eC_Rider g q _ (kRi_of hg10)) ⟨Nat.le_of_ble_eq_true rfl, Nat.le_of_ble_eq_true rfl⟩ ⟨Nat.zero_le _, Nat.zero_le _⟩ rfl rfl hl.1 (Nat.le_of_ble_eq_true rfl) dX6_reading_23) I (fun H locs I => ?_)
    refine lv_if_eq (tgt := 39) hx hb dX6_reading_26 (by decide) (fun hc13 => ?_) (fun hc13 => ?_)
    · have hD := ite_p hc13 hD
      refine lv_bipush (v := -2) hx hb dX6_reading_39 (by decide) ?_
      exact r_iret2 X I hD dX6_reading_41
    · have hD := ite_n hc13 hD
      refine lv_iload_n hx hb dX6_reading_29 rfl (lv_at hl 3 rfl) ?_
      refine lv_sipush (v := 199) hx hb dX6_reading_30 (by decide) ?_
      obtain ⟨y18, hy18, hD⟩ := bd_s hD
      refine r_calli (r_runS (As := [.int p3, .int (199 : Int32)]) (rest := []) X I (c_X6_within l g q _ σ p3 (199 : Int32) hy18) ks_X6_within ml_X6_106 ⟨Nat.le_of_ble_eq_true rfl, Nat.le_of_ble_eq_true rfl⟩ ⟨Nat.zero_le _, Nat.zero_le _⟩ rfl rfl hl.1 (Nat.le_of_ble_eq_true rfl) dX6_reading_33) I (fun H locs I => ?_)
      refine lv_if_ne (tgt := 42) hx hb dX6_reading_36 (by decide) (fun hc19 => ?_) (fun hc19 => ?_)
      · have hD := ite_n hc19 hD
        refine lv_aload_n hx hb dX6_reading_42 rfl (lv_at hl 0 rfl) ?_
        refine g_YearDeck_read X I fl_X6_21 dX6_reading_43 ?_
        refine g_Readings_count X I fl_X6_68 dX6_reading_46 ?_
        refine lv_bipush (v := 8) hx hb dX6_reading_49 (by decide) ?_
        refine lv_icmp_lt (tgt := 57) hx hb dX6_reading_51 (by decide) (fun hc24 => ?_) (fun hc24 => ?_)
        · have hD := ite_p hc24 hD
          refine lv_aload_n hx hb dX6_reading_57 rfl (lv_at hl 0 rfl) ?_
          refine g_YearDeck_read X I fl_X6_21 dX6_reading_58 ?_
          refine lv_iload_n hx hb dX6_reading_61 rfl (lv_at hl 1 rfl) ?_
          refine lv_iload_n hx hb dX6_reading_62 rfl (lv_at hl 2 rfl) ?_
          refine lv_iload_n hx hb dX6_reading_63 rfl (lv_at hl 3 rfl) ?_
          obtain ⟨y30, hy30, hD⟩ := bd_s hD
          refine r_callv (r_runV (As := [.int p1, .int p2, .int p3]) (rest := []) X I (c_X1_append l g q _ σ p1 p2 p3 hy30) kv_X1_append ml_X6_182 rfl (by decide) (eC_Readings g q _) ⟨Nat.le_of_ble_eq_true rfl, Nat.le_of_ble_eq_true rfl⟩ ⟨Nat.zero_le _, Nat.zero_le _⟩ rfl rfl hl.1 (Nat.le_of_ble_eq_true rfl) dX6_reading_64) I (fun H locs I => ?_)
          refine lv_aload_n hx hb dX6_reading_67 rfl (lv_at hl 0 rfl) ?_
          refine g_YearDeck_read X I fl_X6_21 dX6_reading_68 ?_
          refine g_Readings_count X I fl_X6_68 dX6_reading_71 ?_
          refine lv_iconst (v := 1) hx hb dX6_reading_74 (by decide) ?_
          refine lv_isub hx hb dX6_reading_75 ?_
          exact r_iret2 X I hD dX6_reading_76
        · have hD := ite_n hc24 hD
          refine lv_bipush (v := -4) hx hb dX6_reading_54 (by decide) ?_
          exact r_iret2 X I hD dX6_reading_56
      · have hD := ite_p hc19 hD
        refine lv_bipush (v := -2) hx hb dX6_reading_39 (by decide) ?_
        exact r_iret2 X I hD dX6_reading_41
  · have hD := ite_p hc5 hD
    refine lv_iconst (v := -1) hx hb dX6_reading_11 (by decide) ?_
    exact r_iret2 X I hD dX6_reading_12

/-! YearDeck.back(I)I -/
def D_X6_back (σ : St) (p1 : Int32) : Option (Int32 × St) := (D_X6_within σ p1 (σ 9 3)).bind fun y5 => if y5 = 0 then some ((-2 : Int32), σ) else some ((up2 σ 9 3 ((σ 9 3) - p1)) 9 3, up2 σ 9 3 ((σ 9 3) - p1))
set_option maxRecDepth 100000 in
set_option maxHeartbeats 4000000 in
theorem c_X6_back (l : Launch) (g : Gh) (q : Nat → Nat) (sz : Nat) (σ : St) (p1 : Int32) {rr : (Int32 × St)} (hD : D_X6_back σ p1 = some rr) : Met l yX6_back (wU yX6_back cX6_back 2 (some .int)) (rmD 1) (PQ g (eC g q) q 23 σ sz [.ref (q 0), .int p1]) (QI g (eC g q) q 23 rr.1 rr.2 sz) 0 0 (AQ q 23 sz) := by
  refine met_of (Qc := QI g (eC g q) q 23 rr.1 rr.2) (by decide) (Nat.le_of_ble_eq_true rfl) ?_
  intro p e s m below meth c ls X I hl
  have hx := X.1
  have hb := X.2.1
  have hl : lv_has ls 2 [(0, .ref (q 0)), (1, .int p1)] := hl
  unfold D_X6_back at hD
  refine lv_iload_n hx hb dX6_back_0 rfl (lv_at hl 1 rfl) ?_
  refine lv_aload_n hx hb dX6_back_1 rfl (lv_at hl 0 rfl) ?_
  refine g_YearDeck_read X I fl_X6_21 dX6_back_2 ?_
  refine g_Readings_count X I fl_X6_68 dX6_back_5 ?_
  obtain ⟨y5, hy5, hD⟩ := bd_s hD
  refine r_calli (r_runS (As := [.int p1, .int (σ 9 3)]) (rest := []) X I (c_X6_within l g q _ σ p1 (σ 9 3) hy5) ks_X6_within ml_X6_106 ⟨Nat.le_of_ble_eq_true rfl, Nat.le_of_ble_eq_true rfl⟩ ⟨Nat.zero_le _, Nat.zero_le _⟩ rfl rfl hl.1 (Nat.le_of_ble_eq_true rfl) dX6_back_8) I (fun H locs I => ?_)
  refine lv_if_ne (tgt := 17) hx hb dX6_back_11 (by decide) (fun hc6 => ?_) (fun hc6 => ?_)
  · have hD := ite_n hc6 hD
    refine lv_aload_n hx hb dX6_back_17 rfl (lv_at hl 0 rfl) ?_
    refine g_YearDeck_read X I fl_X6_21 dX6_back_18 ?_
    refine lv_dup hx hb dX6_back_21 rfl ?_
    refine g_Readings_count X I fl_X6_68 dX6_back_22 ?_
    refine lv_iload_n hx hb dX6_back_25 rfl (lv_at hl 1 rfl) ?_
    refine lv_isub hx hb dX6_back_26 ?_
    refine p_Readings_count X I fl_X6_68 dX6_back_27 (fun H locs I => ?_)
    refine lv_aload_n hx hb dX6_back_30 rfl (lv_at hl 0 rfl) ?_
    refine g_YearDeck_read X I fl_X6_21 dX6_back_31 ?_
    refine g_Readings_count X I fl_X6_68 dX6_back_34 ?_
    exact r_iret2 X I hD dX6_back_37
  · have hD := ite_p hc6 hD
    refine lv_bipush (v := -2) hx hb dX6_back_14 (by decide) ?_
    exact r_iret2 X I hD dX6_back_16

/-! YearDeck.slopes(I)I -/
def D_X6_slopes_72 (σ : St) (v1 : Int32) (v2 : Int32) (v3 : Int32) : Option (Int32 × St) := gd (inb v1 5) (some (v3, up2 σ 2 v1.toNatClampNeg v2))
set_option maxRecDepth 100000 in
set_option maxHeartbeats 4000000 in
theorem w_X6_slopes_72 {p : Program} {l : Launch} {e : Env} {s : State} {m : MethodId} {args : Array Value} {below : List Frame} {meth : Method} {c : Code} (g : Gh) (q : Nat → Nat) (X : MX p s m args meth c cX6_slopes 5 (some .int) RX6) {rr : (Int32 × St)} (σ : St)  (v1 : Int32) (v2 : Int32) (v3 : Int32) (hD : D_X6_slopes_72 σ v1 v2 v3 = some rr) (H : Heap) (locs : List Loc) (ls : Array Slot) (I : IC g q s σ H locs) (hl : lv_has ls 5 [(0, .ref (q 0)), (1, .int v1), (2, .int v2), (3, .int v3)]) : W p l e (rmD 3) s m args below meth c H locs 0 0 (MQ below (QI g (eC g q) q 23 rr.1 rr.2 s.heap.size) args s 0 0 (AQ q 23 s.heap.size)) (F0 m 72 ls []) := by
  have hx := X.1
  have hb := X.2.1
  unfold D_X6_slopes_72 at hD
  refine lv_aload_n hx hb dX6_slopes_72 rfl (lv_at hl 0 rfl) ?_
  refine g_YearDeck_trip X I fl_X6_12 dX6_slopes_73 ?_
  refine g_Ride_steep X I fl_X6_103 dX6_slopes_76 ?_
  refine lv_iload_n hx hb dX6_slopes_79 rfl (lv_at hl 1 rfl) ?_
  refine lv_iload_n hx hb dX6_slopes_80 rfl (lv_at hl 2 rfl) ?_
  obtain ⟨hg44, hD⟩ := gd_s hD
  refine r_iast (eC_loc g q) X I (by decide) (eCa_2 g q) hg44 dX6_slopes_81 (fun H locs I => ?_)
  refine lv_iload_n hx hb dX6_slopes_82 rfl (lv_at hl 3 rfl) ?_
  exact r_iret2 X I hD dX6_slopes_83
def D_X6_slopes_66 (σ : St) (rc28 : St → Int32 → Int32 → Option (Int32 × St)) (v1 : Int32) (v2 : Int32) (v3 : Int32) (v4 : Int32) : Option (Int32 × St) := rc28 σ v3 (v4 + (1 : Int32))
set_option maxRecDepth 100000 in
set_option maxHeartbeats 4000000 in
theorem w_X6_slopes_66 {p : Program} {l : Launch} {e : Env} {s : State} {m : MethodId} {args : Array Value} {below : List Frame} {meth : Method} {c : Code} (g : Gh) (q : Nat → Nat) (X : MX p s m args meth c cX6_slopes 5 (some .int) RX6) {rr : (Int32 × St)} (σ : St)  (v1 : Int32) (v2 : Int32) (v3 : Int32) (v4 : Int32) (rc28 : St → Int32 → Int32 → Option (Int32 × St)) (hrc28 : ∀ (σ' : St) (v3' : Int32) (v4' : Int32), rc28 σ' v3' v4' = some rr → ∀ (H : Heap) (locs : List Loc) (ls : Array Slot), IC g q s σ' H locs → lv_has ls 5 [(0, .ref (q 0)), (1, .int v1), (2, .int v2), (3, .int v3'), (4, .int v4')] → W p l e (rmD 3) s m args below meth c H locs 0 0 (MQ below (QI g (eC g q) q 23 rr.1 rr.2 s.heap.size) args s 0 0 (AQ q 23 s.heap.size)) (F0 m 28 ls [])) (hD : D_X6_slopes_66 σ rc28 v1 v2 v3 v4 = some rr) (H : Heap) (locs : List Loc) (ls : Array Slot) (I : IC g q s σ H locs) (hl : lv_has ls 5 [(0, .ref (q 0)), (1, .int v1), (2, .int v2), (3, .int v3), (4, .int v4)]) : W p l e (rmD 3) s m args below meth c H locs 0 0 (MQ below (QI g (eC g q) q 23 rr.1 rr.2 s.heap.size) args s 0 0 (AQ q 23 s.heap.size)) (F0 m 66 ls []) := by
  have hx := X.1
  have hb := X.2.1
  unfold D_X6_slopes_66 at hD
  refine lv_iinc (v := v4 + (1 : Int32)) (lv' := [(4, .int (v4 + (1 : Int32))), (0, .ref (q 0)), (1, .int v1), (2, .int v2), (3, .int v3)]) hx hb dX6_slopes_66 hl (k := 4) rfl rfl (by decide) rfl (fun ls hl => ?_)
  refine lv_goto (tgt := 28) hx hb dX6_slopes_69 (by decide) ?_
  exact hrc28 σ v3 (v4 + (1 : Int32)) hD _ _ _ I (lv_sub hl [1, 2, 3, 4, 0] rfl)
def D_X6_slopes_28b (σ : St) (rc28 : St → Int32 → Int32 → Option (Int32 × St)) (v1 : Int32) (v2 : Int32) (v3 : Int32) (v4 : Int32) : Option (Int32 × St) := if (3 : Int32) < v4 then D_X6_slopes_72 σ v1 v2 v3 else gd (inb v1 5) ((D_X1_allHold (up2 σ 2 v1.toNatClampNeg v4)).bind fun y31 => if y31 = 0 then D_X6_slopes_66 (up2 σ 2 v1.toNatClampNeg v4) rc28 v1 v2 v3 v4 else D_X6_slopes_66 (up2 σ 2 v1.toNatClampNeg v4) rc28 v1 v2 (v3 ||| ((1 : Int32) <<< (v4 &&& 31))) v4)
set_option maxRecDepth 100000 in
set_option maxHeartbeats 4000000 in
theorem w_X6_slopes_28b {p : Program} {l : Launch} {e : Env} {s : State} {m : MethodId} {args : Array Value} {below : List Frame} {meth : Method} {c : Code} (g : Gh) (q : Nat → Nat) (X : MX p s m args meth c cX6_slopes 5 (some .int) RX6) {rr : (Int32 × St)} (σ : St)  (v1 : Int32) (v2 : Int32) (v3 : Int32) (v4 : Int32) (rc28 : St → Int32 → Int32 → Option (Int32 × St)) (hrc28 : ∀ (σ' : St) (v3' : Int32) (v4' : Int32), rc28 σ' v3' v4' = some rr → ∀ (H : Heap) (locs : List Loc) (ls : Array Slot), IC g q s σ' H locs → lv_has ls 5 [(0, .ref (q 0)), (1, .int v1), (2, .int v2), (3, .int v3'), (4, .int v4')] → W p l e (rmD 3) s m args below meth c H locs 0 0 (MQ below (QI g (eC g q) q 23 rr.1 rr.2 s.heap.size) args s 0 0 (AQ q 23 s.heap.size)) (F0 m 28 ls [])) (hD : D_X6_slopes_28b σ rc28 v1 v2 v3 v4 = some rr) (H : Heap) (locs : List Loc) (ls : Array Slot) (I : IC g q s σ H locs) (hl : lv_has ls 5 [(0, .ref (q 0)), (1, .int v1), (2, .int v2), (3, .int v3), (4, .int v4)]) : W p l e (rmD 3) s m args below meth c H locs 0 0 (MQ below (QI g (eC g q) q 23 rr.1 rr.2 s.heap.size) args s 0 0 (AQ q 23 s.heap.size)) (F0 m 28 ls []) := by
  have hx := X.1
  have hb := X.2.1
  unfold D_X6_slopes_28b at hD
  refine lv_iload hx hb dX6_slopes_28 (lv_at hl 4 rfl) ?_
  refine lv_iconst (v := 3) hx hb dX6_slopes_30 (by decide) ?_
  refine lv_icmp_gt (tgt := 72) hx hb dX6_slopes_31 (by decide) (fun hc20 => ?_) (fun hc20 => ?_)
  · have hD := ite_p hc20 hD
    exact w_X6_slopes_72 g q X σ v1 v2 v3 hD _ _ _ I (lv_sub hl [0, 1, 2, 3] rfl)
  · have hD := ite_n hc20 hD
    refine lv_aload_n hx hb dX6_slopes_34 rfl (lv_at hl 0 rfl) ?_
    refine g_YearDeck_trip X I fl_X6_12 dX6_slopes_35 ?_
    refine g_Ride_steep X I fl_X6_103 dX6_slopes_38 ?_
    refine lv_iload_n hx hb dX6_slopes_41 rfl (lv_at hl 1 rfl) ?_
    refine lv_iload hx hb dX6_slopes_42 (lv_at hl 4 rfl) ?_
    obtain ⟨hg26, hD⟩ := gd_s hD
    refine r_iast (eC_loc g q) X I (by decide) (eCa_2 g q) hg26 dX6_slopes_44 (fun H locs I => ?_)
    refine lv_aload_n hx hb dX6_slopes_45 rfl (lv_at hl 0 rfl) ?_
    refine g_YearDeck_read X I fl_X6_21 dX6_slopes_46 ?_
    refine lv_aload_n hx hb dX6_slopes_49 rfl (lv_at hl 0 rfl) ?_
    refine g_YearDeck_trip X I fl_X6_12 dX6_slopes_50 ?_
    obtain ⟨y31, hy31, hD⟩ := bd_s hD
    refine r_calli (r_runV (As := [.ref (q 1)]) (rest := []) X I (c_X1_allHold l g q _ (up2 σ 2 v1.toNatClampNeg v4) hy31) kv_X1_allHold ml_X6_186 rfl (by decide) (eC_Readings g q _) ⟨Nat.le_of_ble_eq_true rfl, Nat.le_of_ble_eq_true rfl⟩ ⟨Nat.zero_le _, Nat.zero_le _⟩ rfl rfl hl.1 (Nat.le_of_ble_eq_true rfl) dX6_slopes_53) I (fun H locs I => ?_)
    refine lv_if_eq (tgt := 66) hx hb dX6_slopes_56 (by decide) (fun hc32 => ?_) (fun hc32 => ?_)
    · have hD := ite_p hc32 hD
      exact w_X6_slopes_66 g q X (up2 σ 2 v1.toNatClampNeg v4) v1 v2 v3 v4 rc28 hrc28 hD _ _ _ I (lv_sub hl [0, 1, 2, 3, 4] rfl)
    · have hD := ite_n hc32 hD
      refine lv_iload_n hx hb dX6_slopes_59 rfl (lv_at hl 3 rfl) ?_
      refine lv_iconst (v := 1) hx hb dX6_slopes_60 (by decide) ?_
      refine lv_iload hx hb dX6_slopes_61 (lv_at hl 4 rfl) ?_
      refine lv_ishl hx hb dX6_slopes_63 ?_
      refine lv_ior hx hb dX6_slopes_64 ?_
      refine lv_istore_n (lv' := [(3, .int (v3 ||| ((1 : Int32) <<< (v4 &&& 31)))), (0, .ref (q 0)), (1, .int v1), (2, .int v2), (4, .int v4)]) hx hb dX6_slopes_65 rfl hl (by decide) rfl (fun ls hl => ?_)
      exact w_X6_slopes_66 g q X (up2 σ 2 v1.toNatClampNeg v4) v1 v2 (v3 ||| ((1 : Int32) <<< (v4 &&& 31))) v4 rc28 hrc28 hD _ _ _ I (lv_sub hl [1, 2, 3, 0, 4] rfl)
def D_X6_slopes_28  (v1 : Int32) (v2 : Int32) : Nat → St → Int32 → Int32 → Option (Int32 × St)
  | 0 => fun _ _ _ => none
  | n + 1 => fun σ v3 v4 => D_X6_slopes_28b σ (D_X6_slopes_28 v1 v2 n) v1 v2 v3 v4
set_option maxRecDepth 100000 in
set_option maxHeartbeats 4000000 in
theorem w_X6_slopes_28 {p : Program} {l : Launch} {e : Env} {s : State} {m : MethodId} {args : Array Value} {below : List Frame} {meth : Method} {c : Code} (g : Gh) (q : Nat → Nat) (X : MX p s m args meth c cX6_slopes 5 (some .int) RX6) {rr : (Int32 × St)}  (v1 : Int32) (v2 : Int32) : ∀ (n : Nat) (σ : St) (v3 : Int32) (v4 : Int32), D_X6_slopes_28 v1 v2 n σ v3 v4 = some rr → ∀ (H : Heap) (locs : List Loc) (ls : Array Slot), IC g q s σ H locs → lv_has ls 5 [(0, .ref (q 0)), (1, .int v1), (2, .int v2), (3, .int v3), (4, .int v4)] → W p l e (rmD 3) s m args below meth c H locs 0 0 (MQ below (QI g (eC g q) q 23 rr.1 rr.2 s.heap.size) args s 0 0 (AQ q 23 s.heap.size)) (F0 m 28 ls []) := by
  intro n
  induction n with
  | zero =>
    intro σ v3 v4 hD H locs ls I hl
    cases hD
  | succ n ih =>
    intro σ v3 v4 hD H locs ls I hl
    exact w_X6_slopes_28b g q X σ v1 v2 v3 v4 _ ih hD H locs ls I hl
def D_X6_slopes (σ : St) (p1 : Int32) : Option (Int32 × St) := (D_X2_hasSection σ p1).bind fun y4 => if y4 = 0 then some ((-1 : Int32), σ) else gd (inb p1 5) (D_X6_slopes_28 p1 (σ 2 p1.toNatClampNeg) FU σ (0 : Int32) (0 : Int32))
set_option maxRecDepth 100000 in
set_option maxHeartbeats 4000000 in
theorem c_X6_slopes (l : Launch) (g : Gh) (q : Nat → Nat) (sz : Nat) (σ : St) (p1 : Int32) {rr : (Int32 × St)} (hD : D_X6_slopes σ p1 = some rr) : Met l yX6_slopes (wU yX6_slopes cX6_slopes 5 (some .int)) (rmD 3) (PQ g (eC g q) q 23 σ sz [.ref (q 0), .int p1]) (QI g (eC g q) q 23 rr.1 rr.2 sz) 0 0 (AQ q 23 sz) := by
  refine met_of (Qc := QI g (eC g q) q 23 rr.1 rr.2) (by decide) (Nat.le_of_ble_eq_true rfl) ?_
  intro p e s m below meth c ls X I hl
  have hx := X.1
  have hb := X.2.1
  have hl : lv_has ls 5 [(0, .ref (q 0)), (1, .int p1)] := hl
  unfold D_X6_slopes at hD
  refine lv_aload_n hx hb dX6_slopes_0 rfl (lv_at hl 0 rfl) ?_
  refine g_YearDeck_trip X I fl_X6_12 dX6_slopes_1 ?_
  refine lv_iload_n hx hb dX6_slopes_4 rfl (lv_at hl 1 rfl) ?_
  obtain ⟨y4, hy4, hD⟩ := bd_s hD
  refine r_calli (r_runV (As := [.int p1]) (rest := []) X I (c_X2_hasSection l g q _ σ p1 hy4) kv_X2_hasSection ml_X6_100 rfl (by decide) (eC_Ride g q _) ⟨Nat.le_of_ble_eq_true rfl, Nat.le_of_ble_eq_true rfl⟩ ⟨Nat.zero_le _, Nat.zero_le _⟩ rfl rfl hl.1 (Nat.le_of_ble_eq_true rfl) dX6_slopes_5) I (fun H locs I => ?_)
  refine lv_if_ne (tgt := 13) hx hb dX6_slopes_8 (by decide) (fun hc5 => ?_) (fun hc5 => ?_)
  · have hD := ite_n hc5 hD
    refine lv_aload_n hx hb dX6_slopes_13 rfl (lv_at hl 0 rfl) ?_
    refine g_YearDeck_trip X I fl_X6_12 dX6_slopes_14 ?_
    refine g_Ride_steep X I fl_X6_103 dX6_slopes_17 ?_
    refine lv_iload_n hx hb dX6_slopes_20 rfl (lv_at hl 1 rfl) ?_
    obtain ⟨hg10, hD⟩ := gd_s hD
    refine r_iald X I (by decide) ((eCa_2 g q) _) hg10 dX6_slopes_21 ?_
    refine lv_istore_n (lv' := [(2, .int (σ 2 p1.toNatClampNeg)), (0, .ref (q 0)), (1, .int p1)]) hx hb dX6_slopes_22 rfl hl (by decide) rfl (fun ls hl => ?_)
    refine lv_iconst (v := 0) hx hb dX6_slopes_23 (by decide) ?_
    refine lv_istore_n (lv' := [(3, .int (0 : Int32)), (2, .int (σ 2 p1.toNatClampNeg)), (0, .ref (q 0)), (1, .int p1)]) hx hb dX6_slopes_24 rfl hl (by decide) rfl (fun ls hl => ?_)
    refine lv_iconst (v := 0) hx hb dX6_slopes_25 (by decide) ?_
    refine lv_istore (lv' := [(4, .int (0 : Int32)), (3, .int (0 : Int32)), (2, .int (σ 2 p1.toNatClampNeg)), (0, .ref (q 0)), (1, .int p1)]) hx hb dX6_slopes_26 hl (by decide) rfl (fun ls hl => ?_)
    exact w_X6_slopes_28 g q X p1 (σ 2 p1.toNatClampNeg) FU σ (0 : Int32) (0 : Int32) hD _ _ _ I (lv_sub hl [3, 4, 2, 1, 0] rfl)
  · have hD := ite_p hc5 hD
    refine lv_iconst (v := -1) hx hb dX6_slopes_11 (by decide) ?_
    exact r_iret2 X I hD dX6_slopes_12

/-! YearDeck.kinds(I)I -/
def D_X6_kinds_75 (σ : St) (v2 : Nat) (v3 : Int32) (v4 : Int32) : Option (Int32 × St) := some (v4, up2 σ v2 0 v3)
set_option maxRecDepth 100000 in
set_option maxHeartbeats 4000000 in
theorem w_X6_kinds_75 {p : Program} {l : Launch} {e : Env} {s : State} {m : MethodId} {args : Array Value} {below : List Frame} {meth : Method} {c : Code} (g : Gh) (q : Nat → Nat) (X : MX p s m args meth c cX6_kinds 6 (some .int) RX6) {rr : (Int32 × St)} (σ : St)  (v2 : Nat) (v3 : Int32) (v4 : Int32) (kv2 : kRi v2) (hD : D_X6_kinds_75 σ v2 v3 v4 = some rr) (H : Heap) (locs : List Loc) (ls : Array Slot) (I : IC g q s σ H locs) (hl : lv_has ls 6 [(2, .ref (q v2)), (3, .int v3), (4, .int v4)]) : W p l e (rmD 3) s m args below meth c H locs 0 0 (MQ below (QI g (eC g q) q 23 rr.1 rr.2 s.heap.size) args s 0 0 (AQ q 23 s.heap.size)) (F0 m 75 ls []) := by
  have hx := X.1
  have hb := X.2.1
  unfold D_X6_kinds_75 at hD
  refine lv_aload_n hx hb dX6_kinds_75 rfl (lv_at hl 0 rfl) ?_
  refine lv_iload_n hx hb dX6_kinds_76 rfl (lv_at hl 1 rfl) ?_
  refine p_Rider_kind X I kv2 fl_X6_79 dX6_kinds_77 (fun H locs I => ?_)
  refine lv_iload hx hb dX6_kinds_80 (lv_at hl 2 rfl) ?_
  exact r_iret2 X I hD dX6_kinds_82
def D_X6_kinds_69 (σ : St) (rc34 : St → Int32 → Int32 → Option (Int32 × St)) (v2 : Nat) (v3 : Int32) (v4 : Int32) (v5 : Int32) : Option (Int32 × St) := rc34 σ v4 (v5 + (1 : Int32))
set_option maxRecDepth 100000 in
set_option maxHeartbeats 4000000 in
theorem w_X6_kinds_69 {p : Program} {l : Launch} {e : Env} {s : State} {m : MethodId} {args : Array Value} {below : List Frame} {meth : Method} {c : Code} (g : Gh) (q : Nat → Nat) (X : MX p s m args meth c cX6_kinds 6 (some .int) RX6) {rr : (Int32 × St)} (σ : St)  (v2 : Nat) (v3 : Int32) (v4 : Int32) (v5 : Int32) (kv2 : kRi v2) (rc34 : St → Int32 → Int32 → Option (Int32 × St)) (hrc34 : ∀ (σ' : St) (v4' : Int32) (v5' : Int32), rc34 σ' v4' v5' = some rr → ∀ (H : Heap) (locs : List Loc) (ls : Array Slot), IC g q s σ' H locs → lv_has ls 6 [(0, .ref (q 0)), (2, .ref (q v2)), (3, .int v3), (4, .int v4'), (5, .int v5')] → W p l e (rmD 3) s m args below meth c H locs 0 0 (MQ below (QI g (eC g q) q 23 rr.1 rr.2 s.heap.size) args s 0 0 (AQ q 23 s.heap.size)) (F0 m 34 ls [])) (hD : D_X6_kinds_69 σ rc34 v2 v3 v4 v5 = some rr) (H : Heap) (locs : List Loc) (ls : Array Slot) (I : IC g q s σ H locs) (hl : lv_has ls 6 [(0, .ref (q 0)), (2, .ref (q v2)), (3, .int v3), (4, .int v4), (5, .int v5)]) : W p l e (rmD 3) s m args below meth c H locs 0 0 (MQ below (QI g (eC g q) q 23 rr.1 rr.2 s.heap.size) args s 0 0 (AQ q 23 s.heap.size)) (F0 m 69 ls []) := by
  have hx := X.1
  have hb := X.2.1
  unfold D_X6_kinds_69 at hD
  refine lv_iinc (v := v5 + (1 : Int32)) (lv' := [(5, .int (v5 + (1 : Int32))), (0, .ref (q 0)), (2, .ref (q v2)), (3, .int v3), (4, .int v4)]) hx hb dX6_kinds_69 hl (k := 4) rfl rfl (by decide) rfl (fun ls hl => ?_)
  refine lv_goto (tgt := 34) hx hb dX6_kinds_72 (by decide) ?_
  exact hrc34 σ v4 (v5 + (1 : Int32)) hD _ _ _ I (lv_sub hl [1, 2, 3, 4, 0] rfl)
def D_X6_kinds_34b (σ : St) (rc34 : St → Int32 → Int32 → Option (Int32 × St)) (v2 : Nat) (v3 : Int32) (v4 : Int32) (v5 : Int32) : Option (Int32 × St) := if (2 : Int32) < v5 then D_X6_kinds_75 σ v2 v3 v4 else (D_X1_allHold (up2 σ v2 0 v5)).bind fun y31 => if y31 = 0 then D_X6_kinds_69 (up2 σ v2 0 v5) rc34 v2 v3 v4 v5 else D_X6_kinds_69 (up2 σ v2 0 v5) rc34 v2 v3 (v4 ||| ((1 : Int32) <<< (v5 &&& 31))) v5
set_option maxRecDepth 100000 in
set_option maxHeartbeats 4000000 in
theorem w_X6_kinds_34b {p : Program} {l : Launch} {e : Env} {s : State} {m : MethodId} {args : Array Value} {below : List Frame} {meth : Method} {c : Code} (g : Gh) (q : Nat → Nat) (X : MX p s m args meth c cX6_kinds 6 (some .int) RX6) {rr : (Int32 × St)} (σ : St)  (v2 : Nat) (v3 : Int32) (v4 : Int32) (v5 : Int32) (kv2 : kRi v2) (rc34 : St → Int32 → Int32 → Option (Int32 × St)) (hrc34 : ∀ (σ' : St) (v4' : Int32) (v5' : Int32), rc34 σ' v4' v5' = some rr → ∀ (H : Heap) (locs : List Loc) (ls : Array Slot), IC g q s σ' H locs → lv_has ls 6 [(0, .ref (q 0)), (2, .ref (q v2)), (3, .int v3), (4, .int v4'), (5, .int v5')] → W p l e (rmD 3) s m args below meth c H locs 0 0 (MQ below (QI g (eC g q) q 23 rr.1 rr.2 s.heap.size) args s 0 0 (AQ q 23 s.heap.size)) (F0 m 34 ls [])) (hD : D_X6_kinds_34b σ rc34 v2 v3 v4 v5 = some rr) (H : Heap) (locs : List Loc) (ls : Array Slot) (I : IC g q s σ H locs) (hl : lv_has ls 6 [(0, .ref (q 0)), (2, .ref (q v2)), (3, .int v3), (4, .int v4), (5, .int v5)]) : W p l e (rmD 3) s m args below meth c H locs 0 0 (MQ below (QI g (eC g q) q 23 rr.1 rr.2 s.heap.size) args s 0 0 (AQ q 23 s.heap.size)) (F0 m 34 ls []) := by
  have hx := X.1
  have hb := X.2.1
  unfold D_X6_kinds_34b at hD
  refine lv_iload hx hb dX6_kinds_34 (lv_at hl 4 rfl) ?_
  refine lv_iconst (v := 2) hx hb dX6_kinds_36 (by decide) ?_
  refine lv_icmp_gt (tgt := 75) hx hb dX6_kinds_37 (by decide) (fun hc23 => ?_) (fun hc23 => ?_)
  · have hD := ite_p hc23 hD
    exact w_X6_kinds_75 g q X σ v2 v3 v4 kv2 hD _ _ _ I (lv_sub hl [1, 2, 3] rfl)
  · have hD := ite_n hc23 hD
    refine lv_aload_n hx hb dX6_kinds_40 rfl (lv_at hl 1 rfl) ?_
    refine lv_iload hx hb dX6_kinds_41 (lv_at hl 4 rfl) ?_
    refine p_Rider_kind X I kv2 fl_X6_79 dX6_kinds_43 (fun H locs I => ?_)
    refine lv_aload_n hx hb dX6_kinds_46 rfl (lv_at hl 0 rfl) ?_
    refine g_YearDeck_read X I fl_X6_21 dX6_kinds_47 ?_
    refine lv_aload_n hx hb dX6_kinds_50 rfl (lv_at hl 0 rfl) ?_
    refine g_YearDeck_trip X I fl_X6_12 dX6_kinds_51 ?_
    obtain ⟨y31, hy31, hD⟩ := bd_s hD
    refine r_calli (r_runV (As := [.ref (q 1)]) (rest := []) X I (c_X1_allHold l g q _ (up2 σ v2 0 v5) hy31) kv_X1_allHold ml_X6_186 rfl (by decide) (eC_Readings g q _) ⟨Nat.le_of_ble_eq_true rfl, Nat.le_of_ble_eq_true rfl⟩ ⟨Nat.zero_le _, Nat.zero_le _⟩ rfl rfl hl.1 (Nat.le_of_ble_eq_true rfl) dX6_kinds_54) I (fun H locs I => ?_)
    refine lv_if_eq (tgt := 69) hx hb dX6_kinds_57 (by decide) (fun hc32 => ?_) (fun hc32 => ?_)
    · have hD := ite_p hc32 hD
      exact w_X6_kinds_69 g q X (up2 σ v2 0 v5) v2 v3 v4 v5 kv2 rc34 hrc34 hD _ _ _ I (lv_sub hl [0, 1, 2, 3, 4] rfl)
    · have hD := ite_n hc32 hD
      refine lv_iload hx hb dX6_kinds_60 (lv_at hl 3 rfl) ?_
      refine lv_iconst (v := 1) hx hb dX6_kinds_62 (by decide) ?_
      refine lv_iload hx hb dX6_kinds_63 (lv_at hl 4 rfl) ?_
      refine lv_ishl hx hb dX6_kinds_65 ?_
      refine lv_ior hx hb dX6_kinds_66 ?_
      refine lv_istore (lv' := [(4, .int (v4 ||| ((1 : Int32) <<< (v5 &&& 31)))), (0, .ref (q 0)), (2, .ref (q v2)), (3, .int v3), (5, .int v5)]) hx hb dX6_kinds_67 hl (by decide) rfl (fun ls hl => ?_)
      exact w_X6_kinds_69 g q X (up2 σ v2 0 v5) v2 v3 (v4 ||| ((1 : Int32) <<< (v5 &&& 31))) v5 kv2 rc34 hrc34 hD _ _ _ I (lv_sub hl [1, 2, 3, 0, 4] rfl)
def D_X6_kinds_34  (v2 : Nat) (v3 : Int32) : Nat → St → Int32 → Int32 → Option (Int32 × St)
  | 0 => fun _ _ _ => none
  | n + 1 => fun σ v4 v5 => D_X6_kinds_34b σ (D_X6_kinds_34 v2 v3 n) v2 v3 v4 v5
set_option maxRecDepth 100000 in
set_option maxHeartbeats 4000000 in
theorem w_X6_kinds_34 {p : Program} {l : Launch} {e : Env} {s : State} {m : MethodId} {args : Array Value} {below : List Frame} {meth : Method} {c : Code} (g : Gh) (q : Nat → Nat) (X : MX p s m args meth c cX6_kinds 6 (some .int) RX6) {rr : (Int32 × St)}  (v2 : Nat) (v3 : Int32) (kv2 : kRi v2) : ∀ (n : Nat) (σ : St) (v4 : Int32) (v5 : Int32), D_X6_kinds_34 v2 v3 n σ v4 v5 = some rr → ∀ (H : Heap) (locs : List Loc) (ls : Array Slot), IC g q s σ H locs → lv_has ls 6 [(0, .ref (q 0)), (2, .ref (q v2)), (3, .int v3), (4, .int v4), (5, .int v5)] → W p l e (rmD 3) s m args below meth c H locs 0 0 (MQ below (QI g (eC g q) q 23 rr.1 rr.2 s.heap.size) args s 0 0 (AQ q 23 s.heap.size)) (F0 m 34 ls []) := by
  intro n
  induction n with
  | zero =>
    intro σ v4 v5 hD H locs ls I hl
    cases hD
  | succ n ih =>
    intro σ v4 v5 hD H locs ls I hl
    exact w_X6_kinds_34b g q X σ v2 v3 v4 v5 kv2 _ ih hD H locs ls I hl
def D_X6_kinds (σ : St) (p1 : Int32) : Option (Int32 × St) := (D_X2_hasRider σ p1).bind fun y4 => if y4 = 0 then some ((-1 : Int32), σ) else gd (inb p1 4) (D_X6_kinds_34 (5 + p1.toNatClampNeg) (σ (5 + p1.toNatClampNeg) 0) FU σ (0 : Int32) (0 : Int32))
set_option maxRecDepth 100000 in
set_option maxHeartbeats 4000000 in
theorem c_X6_kinds (l : Launch) (g : Gh) (q : Nat → Nat) (sz : Nat) (σ : St) (p1 : Int32) {rr : (Int32 × St)} (hD : D_X6_kinds σ p1 = some rr) : Met l yX6_kinds (wU yX6_kinds cX6_kinds 6 (some .int)) (rmD 3) (PQ g (eC g q) q 23 σ sz [.ref (q 0), .int p1]) (QI g (eC g q) q 23 rr.1 rr.2 sz) 0 0 (AQ q 23 sz) := by
  refine met_of (Qc := QI g (eC g q) q 23 rr.1 rr.2) (by decide) (Nat.le_of_ble_eq_true rfl) ?_
  intro p e s m below meth c ls X I hl
  have hx := X.1
  have hb := X.2.1
  have hl : lv_has ls 6 [(0, .ref (q 0)), (1, .int p1)] := hl
  unfold D_X6_kinds at hD
  refine lv_aload_n hx hb dX6_kinds_0 rfl (lv_at hl 0 rfl) ?_
  refine g_YearDeck_trip X I fl_X6_12 dX6_kinds_1 ?_
  refine lv_iload_n hx hb dX6_kinds_4 rfl (lv_at hl 1 rfl) ?_
  obtain ⟨y4, hy4, hD⟩ := bd_s hD
  refine r_calli (r_runV (As := [.int p1]) (rest := []) X I (c_X2_hasRider l g q _ σ p1 hy4) kv_X2_hasRider ml_X6_72 rfl (by decide) (eC_Ride g q _) ⟨Nat.le_of_ble_eq_true rfl, Nat.le_of_ble_eq_true rfl⟩ ⟨Nat.zero_le _, Nat.zero_le _⟩ rfl rfl hl.1 (Nat.le_of_ble_eq_true rfl) dX6_kinds_5) I (fun H locs I => ?_)
  refine lv_if_ne (tgt := 13) hx hb dX6_kinds_8 (by decide) (fun hc5 => ?_) (fun hc5 => ?_)
  · have hD := ite_n hc5 hD
    refine lv_aload_n hx hb dX6_kinds_13 rfl (lv_at hl 0 rfl) ?_
    refine g_YearDeck_trip X I fl_X6_12 dX6_kinds_14 ?_
    refine g_Ride_riders X I fl_X6_75 dX6_kinds_17 ?_
    refine lv_iload_n hx hb dX6_kinds_20 rfl (lv_at hl 1 rfl) ?_
    obtain ⟨hg10, hD⟩ := gd_s hD
    refine r_aald (t0 := 2) X I (by decide) rfl (eCr_3 g q _) hg10 dX6_kinds_21 ?_
    refine lv_astore_n (lv' := [(2, .ref (q (5 + p1.toNatClampNeg))), (0, .ref (q 0)), (1, .int p1)]) hx hb dX6_kinds_22 rfl hl (by decide) rfl (fun ls hl => ?_)
    refine lv_aload_n hx hb dX6_kinds_23 rfl (lv_at hl 0 rfl) ?_
    refine g_Rider_kind X I (kRi_of hg10) fl_X6_79 dX6_kinds_24 ?_
    refine lv_istore_n (lv' := [(3, .int (σ (5 + p1.toNatClampNeg) 0)), (2, .ref (q (5 + p1.toNatClampNeg))), (0, .ref (q 0)), (1, .int p1)]) hx hb dX6_kinds_27 rfl hl (by decide) rfl (fun ls hl => ?_)
    refine lv_iconst (v := 0) hx hb dX6_kinds_28 (by decide) ?_
    refine lv_istore (lv' := [(4, .int (0 : Int32)), (3, .int (σ (5 + p1.toNatClampNeg) 0)), (2, .ref (q (5 + p1.toNatClampNeg))), (0, .ref (q 0)), (1, .int p1)]) hx hb dX6_kinds_29 hl (by decide) rfl (fun ls hl => ?_)
    refine lv_iconst (v := 0) hx hb dX6_kinds_31 (by decide) ?_
    refine lv_istore (lv' := [(5, .int (0 : Int32)), (4, .int (0 : Int32)), (3, .int (σ (5 + p1.toNatClampNeg) 0)), (2, .ref (q (5 + p1.toNatClampNeg))), (0, .ref (q 0)), (1, .int p1)]) hx hb dX6_kinds_32 hl (by decide) rfl (fun ls hl => ?_)
    exact w_X6_kinds_34 g q X (5 + p1.toNatClampNeg) (σ (5 + p1.toNatClampNeg) 0) (kRi_of hg10) FU σ (0 : Int32) (0 : Int32) hD _ _ _ I (lv_sub hl [4, 3, 2, 1, 0] rfl)
  · have hD := ite_p hc5 hD
    refine lv_iconst (v := -1) hx hb dX6_kinds_11 (by decide) ?_
    exact r_iret2 X I hD dX6_kinds_12

/-! YearDeck.began(II)I -/
def D_X6_began_89 (σ : St) (v2 : Int32) (v3 : Nat) (v4 : Int32) (v5 : Int32) (v6 : Int32) : Option (Int32 × St) := if v2 = 0 then some (v5, up2 σ v3 3 v4) else some (v6, up2 σ v3 3 v4)
set_option maxRecDepth 100000 in
set_option maxHeartbeats 4000000 in
theorem w_X6_began_89 {p : Program} {l : Launch} {e : Env} {s : State} {m : MethodId} {args : Array Value} {below : List Frame} {meth : Method} {c : Code} (g : Gh) (q : Nat → Nat) (X : MX p s m args meth c cX6_began 8 (some .int) RX6) {rr : (Int32 × St)} (σ : St)  (v2 : Int32) (v3 : Nat) (v4 : Int32) (v5 : Int32) (v6 : Int32) (kv3 : kRi v3) (hD : D_X6_began_89 σ v2 v3 v4 v5 v6 = some rr) (H : Heap) (locs : List Loc) (ls : Array Slot) (I : IC g q s σ H locs) (hl : lv_has ls 8 [(2, .int v2), (3, .ref (q v3)), (4, .int v4), (5, .int v5), (6, .int v6)]) : W p l e (rmD 3) s m args below meth c H locs 0 0 (MQ below (QI g (eC g q) q 23 rr.1 rr.2 s.heap.size) args s 0 0 (AQ q 23 s.heap.size)) (F0 m 89 ls []) := by
  have hx := X.1
  have hb := X.2.1
  unfold D_X6_began_89 at hD
  refine lv_aload_n hx hb dX6_began_89 rfl (lv_at hl 1 rfl) ?_
  refine lv_iload hx hb dX6_began_90 (lv_at hl 2 rfl) ?_
  refine p_Rider_years X I kv3 fl_X6_90 dX6_began_92 (fun H locs I => ?_)
  refine lv_iload_n hx hb dX6_began_95 rfl (lv_at hl 0 rfl) ?_
  refine lv_if_ne (tgt := 104) hx hb dX6_began_96 (by decide) (fun hc47 => ?_) (fun hc47 => ?_)
  · have hD := ite_n hc47 hD
    refine lv_iload hx hb dX6_began_104 (lv_at hl 4 rfl) ?_
    exact r_iret2 X I hD dX6_began_106
  · have hD := ite_p hc47 hD
    refine lv_iload hx hb dX6_began_99 (lv_at hl 3 rfl) ?_
    refine lv_goto (tgt := 106) hx hb dX6_began_101 (by decide) ?_
    exact r_iret2 X I hD dX6_began_106
def D_X6_began_83 (σ : St) (rc51 : St → Int32 → Int32 → Int32 → Option (Int32 × St)) (v2 : Int32) (v3 : Nat) (v4 : Int32) (v5 : Int32) (v6 : Int32) (v7 : Int32) : Option (Int32 × St) := rc51 σ v5 v6 (v7 + (-1 : Int32))
set_option maxRecDepth 100000 in
set_option maxHeartbeats 4000000 in
theorem w_X6_began_83 {p : Program} {l : Launch} {e : Env} {s : State} {m : MethodId} {args : Array Value} {below : List Frame} {meth : Method} {c : Code} (g : Gh) (q : Nat → Nat) (X : MX p s m args meth c cX6_began 8 (some .int) RX6) {rr : (Int32 × St)} (σ : St)  (v2 : Int32) (v3 : Nat) (v4 : Int32) (v5 : Int32) (v6 : Int32) (v7 : Int32) (kv3 : kRi v3) (rc51 : St → Int32 → Int32 → Int32 → Option (Int32 × St)) (hrc51 : ∀ (σ' : St) (v5' : Int32) (v6' : Int32) (v7' : Int32), rc51 σ' v5' v6' v7' = some rr → ∀ (H : Heap) (locs : List Loc) (ls : Array Slot), IC g q s σ' H locs → lv_has ls 8 [(0, .ref (q 0)), (2, .int v2), (3, .ref (q v3)), (4, .int v4), (5, .int v5'), (6, .int v6'), (7, .int v7')] → W p l e (rmD 3) s m args below meth c H locs 0 0 (MQ below (QI g (eC g q) q 23 rr.1 rr.2 s.heap.size) args s 0 0 (AQ q 23 s.heap.size)) (F0 m 51 ls [])) (hD : D_X6_began_83 σ rc51 v2 v3 v4 v5 v6 v7 = some rr) (H : Heap) (locs : List Loc) (ls : Array Slot) (I : IC g q s σ H locs) (hl : lv_has ls 8 [(0, .ref (q 0)), (2, .int v2), (3, .ref (q v3)), (4, .int v4), (5, .int v5), (6, .int v6), (7, .int v7)]) : W p l e (rmD 3) s m args below meth c H locs 0 0 (MQ below (QI g (eC g q) q 23 rr.1 rr.2 s.heap.size) args s 0 0 (AQ q 23 s.heap.size)) (F0 m 83 ls []) := by
  have hx := X.1
  have hb := X.2.1
  unfold D_X6_began_83 at hD
  refine lv_iinc (v := v7 + (-1 : Int32)) (lv' := [(7, .int (v7 + (-1 : Int32))), (0, .ref (q 0)), (2, .int v2), (3, .ref (q v3)), (4, .int v4), (5, .int v5), (6, .int v6)]) hx hb dX6_began_83 hl (k := 6) rfl rfl (by decide) rfl (fun ls hl => ?_)
  refine lv_goto (tgt := 51) hx hb dX6_began_86 (by decide) ?_
  exact hrc51 σ v5 v6 (v7 + (-1 : Int32)) hD _ _ _ I (lv_sub hl [1, 2, 3, 4, 5, 6, 0] rfl)
def D_X6_began_51b (σ : St) (rc51 : St → Int32 → Int32 → Int32 → Option (Int32 × St)) (v2 : Int32) (v3 : Nat) (v4 : Int32) (v5 : Int32) (v6 : Int32) (v7 : Int32) : Option (Int32 × St) := if v7 < 0 then D_X6_began_89 σ v2 v3 v4 v5 v6 else (D_X1_allHold (up2 σ v3 3 v7)).bind fun y38 => if y38 = 0 then D_X6_began_83 (up2 σ v3 3 v7) rc51 v2 v3 v4 v5 v6 v7 else D_X6_began_83 (up2 σ v3 3 v7) rc51 v2 v3 v4 (v5 + (1 : Int32)) v7 v7
set_option maxRecDepth 100000 in
set_option maxHeartbeats 4000000 in
theorem w_X6_began_51b {p : Program} {l : Launch} {e : Env} {s : State} {m : MethodId} {args : Array Value} {below : List Frame} {meth : Method} {c : Code} (g : Gh) (q : Nat → Nat) (X : MX p s m args meth c cX6_began 8 (some .int) RX6) {rr : (Int32 × St)} (σ : St)  (v2 : Int32) (v3 : Nat) (v4 : Int32) (v5 : Int32) (v6 : Int32) (v7 : Int32) (kv3 : kRi v3) (rc51 : St → Int32 → Int32 → Int32 → Option (Int32 × St)) (hrc51 : ∀ (σ' : St) (v5' : Int32) (v6' : Int32) (v7' : Int32), rc51 σ' v5' v6' v7' = some rr → ∀ (H : Heap) (locs : List Loc) (ls : Array Slot), IC g q s σ' H locs → lv_has ls 8 [(0, .ref (q 0)), (2, .int v2), (3, .ref (q v3)), (4, .int v4), (5, .int v5'), (6, .int v6'), (7, .int v7')] → W p l e (rmD 3) s m args below meth c H locs 0 0 (MQ below (QI g (eC g q) q 23 rr.1 rr.2 s.heap.size) args s 0 0 (AQ q 23 s.heap.size)) (F0 m 51 ls [])) (hD : D_X6_began_51b σ rc51 v2 v3 v4 v5 v6 v7 = some rr) (H : Heap) (locs : List Loc) (ls : Array Slot) (I : IC g q s σ H locs) (hl : lv_has ls 8 [(0, .ref (q 0)), (2, .int v2), (3, .ref (q v3)), (4, .int v4), (5, .int v5), (6, .int v6), (7, .int v7)]) : W p l e (rmD 3) s m args below meth c H locs 0 0 (MQ below (QI g (eC g q) q 23 rr.1 rr.2 s.heap.size) args s 0 0 (AQ q 23 s.heap.size)) (F0 m 51 ls []) := by
  have hx := X.1
  have hb := X.2.1
  unfold D_X6_began_51b at hD
  refine lv_iload hx hb dX6_began_51 (lv_at hl 6 rfl) ?_
  refine lv_if_lt (tgt := 89) hx hb dX6_began_53 (by decide) (fun hc30 => ?_) (fun hc30 => ?_)
  · have hD := ite_p hc30 hD
    exact w_X6_began_89 g q X σ v2 v3 v4 v5 v6 kv3 hD _ _ _ I (lv_sub hl [1, 2, 3, 4, 5] rfl)
  · have hD := ite_n hc30 hD
    refine lv_aload_n hx hb dX6_began_56 rfl (lv_at hl 2 rfl) ?_
    refine lv_iload hx hb dX6_began_57 (lv_at hl 6 rfl) ?_
    refine p_Rider_years X I kv3 fl_X6_90 dX6_began_59 (fun H locs I => ?_)
    refine lv_aload_n hx hb dX6_began_62 rfl (lv_at hl 0 rfl) ?_
    refine g_YearDeck_read X I fl_X6_21 dX6_began_63 ?_
    refine lv_aload_n hx hb dX6_began_66 rfl (lv_at hl 0 rfl) ?_
    refine g_YearDeck_trip X I fl_X6_12 dX6_began_67 ?_
    obtain ⟨y38, hy38, hD⟩ := bd_s hD
    refine r_calli (r_runV (As := [.ref (q 1)]) (rest := []) X I (c_X1_allHold l g q _ (up2 σ v3 3 v7) hy38) kv_X1_allHold ml_X6_186 rfl (by decide) (eC_Readings g q _) ⟨Nat.le_of_ble_eq_true rfl, Nat.le_of_ble_eq_true rfl⟩ ⟨Nat.zero_le _, Nat.zero_le _⟩ rfl rfl hl.1 (Nat.le_of_ble_eq_true rfl) dX6_began_70) I (fun H locs I => ?_)
    refine lv_if_eq (tgt := 83) hx hb dX6_began_73 (by decide) (fun hc39 => ?_) (fun hc39 => ?_)
    · have hD := ite_p hc39 hD
      exact w_X6_began_83 g q X (up2 σ v3 3 v7) v2 v3 v4 v5 v6 v7 kv3 rc51 hrc51 hD _ _ _ I (lv_sub hl [0, 1, 2, 3, 4, 5, 6] rfl)
    · have hD := ite_n hc39 hD
      refine lv_iinc (v := v5 + (1 : Int32)) (lv' := [(5, .int (v5 + (1 : Int32))), (0, .ref (q 0)), (2, .int v2), (3, .ref (q v3)), (4, .int v4), (6, .int v6), (7, .int v7)]) hx hb dX6_began_76 hl (k := 4) rfl rfl (by decide) rfl (fun ls hl => ?_)
      refine lv_iload hx hb dX6_began_79 (lv_at hl 6 rfl) ?_
      refine lv_istore (lv' := [(6, .int v7), (5, .int (v5 + (1 : Int32))), (0, .ref (q 0)), (2, .int v2), (3, .ref (q v3)), (4, .int v4), (7, .int v7)]) hx hb dX6_began_81 hl (by decide) rfl (fun ls hl => ?_)
      exact w_X6_began_83 g q X (up2 σ v3 3 v7) v2 v3 v4 (v5 + (1 : Int32)) v7 v7 kv3 rc51 hrc51 hD _ _ _ I (lv_sub hl [2, 3, 4, 5, 1, 0, 6] rfl)
def D_X6_began_51  (v2 : Int32) (v3 : Nat) (v4 : Int32) : Nat → St → Int32 → Int32 → Int32 → Option (Int32 × St)
  | 0 => fun _ _ _ _ => none
  | n + 1 => fun σ v5 v6 v7 => D_X6_began_51b σ (D_X6_began_51 v2 v3 v4 n) v2 v3 v4 v5 v6 v7
set_option maxRecDepth 100000 in
set_option maxHeartbeats 4000000 in
theorem w_X6_began_51 {p : Program} {l : Launch} {e : Env} {s : State} {m : MethodId} {args : Array Value} {below : List Frame} {meth : Method} {c : Code} (g : Gh) (q : Nat → Nat) (X : MX p s m args meth c cX6_began 8 (some .int) RX6) {rr : (Int32 × St)}  (v2 : Int32) (v3 : Nat) (v4 : Int32) (kv3 : kRi v3) : ∀ (n : Nat) (σ : St) (v5 : Int32) (v6 : Int32) (v7 : Int32), D_X6_began_51 v2 v3 v4 n σ v5 v6 v7 = some rr → ∀ (H : Heap) (locs : List Loc) (ls : Array Slot), IC g q s σ H locs → lv_has ls 8 [(0, .ref (q 0)), (2, .int v2), (3, .ref (q v3)), (4, .int v4), (5, .int v5), (6, .int v6), (7, .int v7)] → W p l e (rmD 3) s m args below meth c H locs 0 0 (MQ below (QI g (eC g q) q 23 rr.1 rr.2 s.heap.size) args s 0 0 (AQ q 23 s.heap.size)) (F0 m 51 ls []) := by
  intro n
  induction n with
  | zero =>
    intro σ v5 v6 v7 hD H locs ls I hl
    cases hD
  | succ n ih =>
    intro σ v5 v6 v7 hD H locs ls I hl
    exact w_X6_began_51b g q X σ v2 v3 v4 v5 v6 v7 kv3 _ ih hD H locs ls I hl
def D_X6_began (σ : St) (p1 : Int32) (p2 : Int32) : Option (Int32 × St) := (D_X2_hasRider σ p1).bind fun y4 => if y4 = 0 then some ((-1 : Int32), σ) else (D_X6_within σ p2 (1 : Int32)).bind fun y8 => if y8 = 0 then some ((-2 : Int32), σ) else gd (inb p1 4) (D_X6_began_51 p2 (5 + p1.toNatClampNeg) (σ (5 + p1.toNatClampNeg) 3) FU σ (0 : Int32) (-9 : Int32) (79 : Int32))
set_option maxRecDepth 100000 in
set_option maxHeartbeats 4000000 in
theorem c_X6_began (l : Launch) (g : Gh) (q : Nat → Nat) (sz : Nat) (σ : St) (p1 : Int32) (p2 : Int32) {rr : (Int32 × St)} (hD : D_X6_began σ p1 p2 = some rr) : Met l yX6_began (wU yX6_began cX6_began 8 (some .int)) (rmD 3) (PQ g (eC g q) q 23 σ sz [.ref (q 0), .int p1, .int p2]) (QI g (eC g q) q 23 rr.1 rr.2 sz) 0 0 (AQ q 23 sz) := by
  refine met_of (Qc := QI g (eC g q) q 23 rr.1 rr.2) (by decide) (Nat.le_of_ble_eq_true rfl) ?_
  intro p e s m below meth c ls X I hl
  have hx := X.1
  have hb := X.2.1
  have hl : lv_has ls 8 [(0, .ref (q 0)), (1, .int p1), (2, .int p2)] := hl
  unfold D_X6_began at hD
  refine lv_aload_n hx hb dX6_began_0 rfl (lv_at hl 0 rfl) ?_
  refine g_YearDeck_trip X I fl_X6_12 dX6_began_1 ?_
  refine lv_iload_n hx hb dX6_began_4 rfl (lv_at hl 1 rfl) ?_
  obtain ⟨y4, hy4, hD⟩ := bd_s hD
  refine r_calli (r_runV (As := [.int p1]) (rest := []) X I (c_X2_hasRider l g q _ σ p1 hy4) kv_X2_hasRider ml_X6_72 rfl (by decide) (eC_Ride g q _) ⟨Nat.le_of_ble_eq_true rfl, Nat.le_of_ble_eq_true rfl⟩ ⟨Nat.zero_le _, Nat.zero_le _⟩ rfl rfl hl.1 (Nat.le_of_ble_eq_true rfl) dX6_began_5) I (fun H locs I => ?_)
  refine lv_if_ne (tgt := 13) hx hb dX6_began_8 (by decide) (fun hc5 => ?_) (fun hc5 => ?_)
  · have hD := ite_n hc5 hD
    refine lv_iload_n hx hb dX6_began_13 rfl (lv_at hl 2 rfl) ?_
    refine lv_iconst (v := 1) hx hb dX6_began_14 (by decide) ?_
    obtain ⟨y8, hy8, hD⟩ := bd_s hD
    refine r_calli (r_runS (As := [.int p2, .int (1 : Int32)]) (rest := []) X I (c_X6_within l g q _ σ p2 (1 : Int32) hy8) ks_X6_within ml_X6_106 ⟨Nat.le_of_ble_eq_true rfl, Nat.le_of_ble_eq_true rfl⟩ ⟨Nat.zero_le _, Nat.zero_le _⟩ rfl rfl hl.1 (Nat.le_of_ble_eq_true rfl) dX6_began_15) I (fun H locs I => ?_)
    refine lv_if_ne (tgt := 24) hx hb dX6_began_18 (by decide) (fun hc9 => ?_) (fun hc9 => ?_)
    · have hD := ite_n hc9 hD
      refine lv_aload_n hx hb dX6_began_24 rfl (lv_at hl 0 rfl) ?_
      refine g_YearDeck_trip X I fl_X6_12 dX6_began_25 ?_
      refine g_Ride_riders X I fl_X6_75 dX6_began_28 ?_
      refine lv_iload_n hx hb dX6_began_31 rfl (lv_at hl 1 rfl) ?_
      obtain ⟨hg14, hD⟩ := gd_s hD
      refine r_aald (t0 := 2) X I (by decide) rfl (eCr_3 g q _) hg14 dX6_began_32 ?_
      refine lv_astore_n (lv' := [(3, .ref (q (5 + p1.toNatClampNeg))), (0, .ref (q 0)), (1, .int p1), (2, .int p2)]) hx hb dX6_began_33 rfl hl (by decide) rfl (fun ls hl => ?_)
      refine lv_aload_n hx hb dX6_began_34 rfl (lv_at hl 0 rfl) ?_
      refine g_Rider_years X I (kRi_of hg14) fl_X6_90 dX6_began_35 ?_
      refine lv_istore (lv' := [(4, .int (σ (5 + p1.toNatClampNeg) 3)), (3, .ref (q (5 + p1.toNatClampNeg))), (0, .ref (q 0)), (1, .int p1), (2, .int p2)]) hx hb dX6_began_38 hl (by decide) rfl (fun ls hl => ?_)
      refine lv_iconst (v := 0) hx hb dX6_began_40 (by decide) ?_
      refine lv_istore (lv' := [(5, .int (0 : Int32)), (4, .int (σ (5 + p1.toNatClampNeg) 3)), (3, .ref (q (5 + p1.toNatClampNeg))), (0, .ref (q 0)), (1, .int p1), (2, .int p2)]) hx hb dX6_began_41 hl (by decide) rfl (fun ls hl => ?_)
      refine lv_bipush (v := -9) hx hb dX6_began_43 (by decide) ?_
      refine lv_istore (lv' := [(6, .int (-9 : Int32)), (5, .int (0 : Int32)), (4, .int (σ (5 + p1.toNatClampNeg) 3)), (3, .ref (q (5 + p1.toNatClampNeg))), (0, .ref (q 0)), (1, .int p1), (2, .int p2)]) hx hb dX6_began_45 hl (by decide) rfl (fun ls hl => ?_)
      refine lv_bipush (v := 79) hx hb dX6_began_47 (by decide) ?_
      refine lv_istore (lv' := [(7, .int (79 : Int32)), (6, .int (-9 : Int32)), (5, .int (0 : Int32)), (4, .int (σ (5 + p1.toNatClampNeg) 3)), (3, .ref (q (5 + p1.toNatClampNeg))), (0, .ref (q 0)), (1, .int p1), (2, .int p2)]) hx hb dX6_began_49 hl (by decide) rfl (fun ls hl => ?_)
      exact w_X6_began_51 g q X p2 (5 + p1.toNatClampNeg) (σ (5 + p1.toNatClampNeg) 3) (kRi_of hg14) FU σ (0 : Int32) (-9 : Int32) (79 : Int32) hD _ _ _ I (lv_sub hl [5, 7, 4, 3, 2, 1, 0] rfl)
    · have hD := ite_p hc9 hD
      refine lv_bipush (v := -2) hx hb dX6_began_21 (by decide) ?_
      exact r_iret2 X I hD dX6_began_23
  · have hD := ite_p hc5 hD
    refine lv_iconst (v := -1) hx hb dX6_began_11 (by decide) ?_
    exact r_iret2 X I hD dX6_began_12

/-! YearDeck.odds(III)J -/
def D_X6_odds_147 (σ : St) (v3 : Int32) (v5 : Int32) (v6 : Int32) : Option Int64 := if v3 = 0 then some v5.toInt64 else some v6.toInt64
set_option maxRecDepth 100000 in
set_option maxHeartbeats 4000000 in
theorem w_X6_odds_147 {p : Program} {l : Launch} {e : Env} {s : State} {m : MethodId} {args : Array Value} {below : List Frame} {meth : Method} {c : Code} (g : Gh) (q : Nat → Nat) (X : MX p s m args meth c cX6_odds 8 (some .long) RX6) {rr : Int64} (σ : St)  (v3 : Int32) (v5 : Int32) (v6 : Int32) (hD : D_X6_odds_147 σ v3 v5 v6 = some rr) (H : Heap) (locs : List Loc) (ls : Array Slot) (I : IC g q s σ H locs) (hl : lv_has ls 8 [(3, .int v3), (5, .int v5), (6, .int v6)]) : W p l e (rmD 2) s m args below meth c H locs 0 0 (MQ below (QL g (eC g q) q 23 rr σ s.heap.size) args s 0 0 (AQ q 23 s.heap.size)) (F0 m 147 ls []) := by
  have hx := X.1
  have hb := X.2.1
  unfold D_X6_odds_147 at hD
  refine lv_iload_n hx hb dX6_odds_147 rfl (lv_at hl 0 rfl) ?_
  refine lv_if_ne (tgt := 157) hx hb dX6_odds_148 (by decide) (fun hc79 => ?_) (fun hc79 => ?_)
  · have hD := ite_n hc79 hD
    refine lv_iload hx hb dX6_odds_157 (lv_at hl 2 rfl) ?_
    refine lv_i2l hx hb dX6_odds_159 rfl ?_
    exact r_lret X I hD dX6_odds_160
  · have hD := ite_p hc79 hD
    refine lv_iload hx hb dX6_odds_151 (lv_at hl 1 rfl) ?_
    refine lv_i2l hx hb dX6_odds_153 rfl ?_
    refine lv_goto (tgt := 160) hx hb dX6_odds_154 (by decide) ?_
    exact r_lret X I hD dX6_odds_160
def D_X6_odds_110b (σ : St) (rc110 : Int32 → Int32 → Int32 → Option Int64) (v3 : Int32) (v5 : Int32) (v6 : Int32) (v7 : Int32) : Option Int64 := if (5 : Int32) ≤ v7 then D_X6_odds_147 σ v3 v5 v6 else if v6 ≤ (1 : Int32) then D_X6_odds_147 σ v3 v5 v6 else if (v5 - v5 / (2 : Int32) * (2 : Int32)) = 0 then rc110 (v5 / (2 : Int32)) (v6 / (2 : Int32)) (v7 + (1 : Int32)) else D_X6_odds_147 σ v3 v5 v6
set_option maxRecDepth 100000 in
set_option maxHeartbeats 4000000 in
theorem w_X6_odds_110b {p : Program} {l : Launch} {e : Env} {s : State} {m : MethodId} {args : Array Value} {below : List Frame} {meth : Method} {c : Code} (g : Gh) (q : Nat → Nat) (X : MX p s m args meth c cX6_odds 8 (some .long) RX6) {rr : Int64} (σ : St)  (v3 : Int32) (v5 : Int32) (v6 : Int32) (v7 : Int32) (rc110 : Int32 → Int32 → Int32 → Option Int64) (hrc110 : ∀ (v5' : Int32) (v6' : Int32) (v7' : Int32), rc110 v5' v6' v7' = some rr → ∀ (H : Heap) (locs : List Loc) (ls : Array Slot), IC g q s σ H locs → lv_has ls 8 [(3, .int v3), (5, .int v5'), (6, .int v6'), (7, .int v7')] → W p l e (rmD 2) s m args below meth c H locs 0 0 (MQ below (QL g (eC g q) q 23 rr σ s.heap.size) args s 0 0 (AQ q 23 s.heap.size)) (F0 m 110 ls [])) (hD : D_X6_odds_110b σ rc110 v3 v5 v6 v7 = some rr) (H : Heap) (locs : List Loc) (ls : Array Slot) (I : IC g q s σ H locs) (hl : lv_has ls 8 [(3, .int v3), (5, .int v5), (6, .int v6), (7, .int v7)]) : W p l e (rmD 2) s m args below meth c H locs 0 0 (MQ below (QL g (eC g q) q 23 rr σ s.heap.size) args s 0 0 (AQ q 23 s.heap.size)) (F0 m 110 ls []) := by
  have hx := X.1
  have hb := X.2.1
  unfold D_X6_odds_110b at hD
  refine lv_iload hx hb dX6_odds_110 (lv_at hl 3 rfl) ?_
  refine lv_iconst (v := 5) hx hb dX6_odds_112 (by decide) ?_
  refine lv_icmp_ge (tgt := 147) hx hb dX6_odds_113 (by decide) (fun hc60 => ?_) (fun hc60 => ?_)
  · have hD := ite_p hc60 hD
    exact w_X6_odds_147 g q X σ v3 v5 v6 hD _ _ _ I (lv_sub hl [0, 1, 2] rfl)
  · have hD := ite_n hc60 hD
    refine lv_iload hx hb dX6_odds_116 (lv_at hl 2 rfl) ?_
    refine lv_iconst (v := 1) hx hb dX6_odds_118 (by decide) ?_
    refine lv_icmp_le (tgt := 147) hx hb dX6_odds_119 (by decide) (fun hc63 => ?_) (fun hc63 => ?_)
    · have hD := ite_p hc63 hD
      exact w_X6_odds_147 g q X σ v3 v5 v6 hD _ _ _ I (lv_sub hl [0, 1, 2] rfl)
    · have hD := ite_n hc63 hD
      refine lv_iload hx hb dX6_odds_122 (lv_at hl 1 rfl) ?_
      refine lv_iconst (v := 2) hx hb dX6_odds_124 (by decide) ?_
      refine lv_irem hx hb dX6_odds_125 (by decide) ?_
      refine lv_if_ne (tgt := 147) hx hb dX6_odds_126 (by decide) (fun hc67 => ?_) (fun hc67 => ?_)
      · have hD := ite_n hc67 hD
        exact w_X6_odds_147 g q X σ v3 v5 v6 hD _ _ _ I (lv_sub hl [0, 1, 2] rfl)
      · have hD := ite_p hc67 hD
        refine lv_iload hx hb dX6_odds_129 (lv_at hl 2 rfl) ?_
        refine lv_iconst (v := 2) hx hb dX6_odds_131 (by decide) ?_
        refine lv_idiv hx hb dX6_odds_132 (by decide) ?_
        refine lv_istore (lv' := [(6, .int (v6 / (2 : Int32))), (3, .int v3), (5, .int v5), (7, .int v7)]) hx hb dX6_odds_133 hl (by decide) rfl (fun ls hl => ?_)
        refine lv_iload hx hb dX6_odds_135 (lv_at hl 2 rfl) ?_
        refine lv_iconst (v := 2) hx hb dX6_odds_137 (by decide) ?_
        refine lv_idiv hx hb dX6_odds_138 (by decide) ?_
        refine lv_istore (lv' := [(5, .int (v5 / (2 : Int32))), (6, .int (v6 / (2 : Int32))), (3, .int v3), (7, .int v7)]) hx hb dX6_odds_139 hl (by decide) rfl (fun ls hl => ?_)
        refine lv_iinc (v := v7 + (1 : Int32)) (lv' := [(7, .int (v7 + (1 : Int32))), (5, .int (v5 / (2 : Int32))), (6, .int (v6 / (2 : Int32))), (3, .int v3)]) hx hb dX6_odds_141 hl (k := 3) rfl rfl (by decide) rfl (fun ls hl => ?_)
        refine lv_goto (tgt := 110) hx hb dX6_odds_144 (by decide) ?_
        exact hrc110 (v5 / (2 : Int32)) (v6 / (2 : Int32)) (v7 + (1 : Int32)) hD _ _ _ I (lv_sub hl [3, 1, 2, 0] rfl)
def D_X6_odds_110 (σ : St) (v3 : Int32) : Nat → Int32 → Int32 → Int32 → Option Int64
  | 0 => fun _ _ _ => none
  | n + 1 => fun v5 v6 v7 => D_X6_odds_110b σ (D_X6_odds_110 σ v3 n) v3 v5 v6 v7
set_option maxRecDepth 100000 in
set_option maxHeartbeats 4000000 in
theorem w_X6_odds_110 {p : Program} {l : Launch} {e : Env} {s : State} {m : MethodId} {args : Array Value} {below : List Frame} {meth : Method} {c : Code} (g : Gh) (q : Nat → Nat) (X : MX p s m args meth c cX6_odds 8 (some .long) RX6) {rr : Int64} (σ : St)  (v3 : Int32) : ∀ (n : Nat) (v5 : Int32) (v6 : Int32) (v7 : Int32), D_X6_odds_110 σ v3 n v5 v6 v7 = some rr → ∀ (H : Heap) (locs : List Loc) (ls : Array Slot), IC g q s σ H locs → lv_has ls 8 [(3, .int v3), (5, .int v5), (6, .int v6), (7, .int v7)] → W p l e (rmD 2) s m args below meth c H locs 0 0 (MQ below (QL g (eC g q) q 23 rr σ s.heap.size) args s 0 0 (AQ q 23 s.heap.size)) (F0 m 110 ls []) := by
  intro n
  induction n with
  | zero =>
    intro v5 v6 v7 hD H locs ls I hl
    cases hD
  | succ n ih =>
    intro v5 v6 v7 hD H locs ls I hl
    exact w_X6_odds_110b g q X σ v3 v5 v6 v7 _ ih hD H locs ls I hl
def D_X6_odds_107 (σ : St) (v3 : Int32) (v5 : Int32) (v6 : Int32) : Option Int64 := D_X6_odds_110 σ v3 FU v5 v6 (0 : Int32)
set_option maxRecDepth 100000 in
set_option maxHeartbeats 4000000 in
theorem w_X6_odds_107 {p : Program} {l : Launch} {e : Env} {s : State} {m : MethodId} {args : Array Value} {below : List Frame} {meth : Method} {c : Code} (g : Gh) (q : Nat → Nat) (X : MX p s m args meth c cX6_odds 8 (some .long) RX6) {rr : Int64} (σ : St)  (v3 : Int32) (v5 : Int32) (v6 : Int32) (hD : D_X6_odds_107 σ v3 v5 v6 = some rr) (H : Heap) (locs : List Loc) (ls : Array Slot) (I : IC g q s σ H locs) (hl : lv_has ls 8 [(3, .int v3), (5, .int v5), (6, .int v6)]) : W p l e (rmD 2) s m args below meth c H locs 0 0 (MQ below (QL g (eC g q) q 23 rr σ s.heap.size) args s 0 0 (AQ q 23 s.heap.size)) (F0 m 107 ls []) := by
  have hx := X.1
  have hb := X.2.1
  unfold D_X6_odds_107 at hD
  refine lv_iconst (v := 0) hx hb dX6_odds_107 (by decide) ?_
  refine lv_istore (lv' := [(7, .int (0 : Int32)), (3, .int v3), (5, .int v5), (6, .int v6)]) hx hb dX6_odds_108 hl (by decide) rfl (fun ls hl => ?_)
  exact w_X6_odds_110 g q X σ v3 FU v5 v6 (0 : Int32) hD _ _ _ I (lv_sub hl [1, 2, 3, 0] rfl)
def D_X6_odds_101 (σ : St) (rc53 : Int32 → Int32 → Int32 → Option Int64) (v2 : Int32) (v3 : Int32) (v4 : Nat) (v5 : Int32) (v6 : Int32) (v7 : Int32) : Option Int64 := rc53 v5 v6 (v7 + (1 : Int32))
set_option maxRecDepth 100000 in
set_option maxHeartbeats 4000000 in
theorem w_X6_odds_101 {p : Program} {l : Launch} {e : Env} {s : State} {m : MethodId} {args : Array Value} {below : List Frame} {meth : Method} {c : Code} (g : Gh) (q : Nat → Nat) (X : MX p s m args meth c cX6_odds 8 (some .long) RX6) {rr : Int64} (σ : St)  (v2 : Int32) (v3 : Int32) (v4 : Nat) (v5 : Int32) (v6 : Int32) (v7 : Int32) (kv4 : kRi v4) (rc53 : Int32 → Int32 → Int32 → Option Int64) (hrc53 : ∀ (v5' : Int32) (v6' : Int32) (v7' : Int32), rc53 v5' v6' v7' = some rr → ∀ (H : Heap) (locs : List Loc) (ls : Array Slot), IC g q s σ H locs → lv_has ls 8 [(0, .ref (q 0)), (2, .int v2), (3, .int v3), (4, .ref (q v4)), (5, .int v5'), (6, .int v6'), (7, .int v7')] → W p l e (rmD 2) s m args below meth c H locs 0 0 (MQ below (QL g (eC g q) q 23 rr σ s.heap.size) args s 0 0 (AQ q 23 s.heap.size)) (F0 m 53 ls [])) (hD : D_X6_odds_101 σ rc53 v2 v3 v4 v5 v6 v7 = some rr) (H : Heap) (locs : List Loc) (ls : Array Slot) (I : IC g q s σ H locs) (hl : lv_has ls 8 [(0, .ref (q 0)), (2, .int v2), (3, .int v3), (4, .ref (q v4)), (5, .int v5), (6, .int v6), (7, .int v7)]) : W p l e (rmD 2) s m args below meth c H locs 0 0 (MQ below (QL g (eC g q) q 23 rr σ s.heap.size) args s 0 0 (AQ q 23 s.heap.size)) (F0 m 101 ls []) := by
  have hx := X.1
  have hb := X.2.1
  unfold D_X6_odds_101 at hD
  refine lv_iinc (v := v7 + (1 : Int32)) (lv' := [(7, .int (v7 + (1 : Int32))), (0, .ref (q 0)), (2, .int v2), (3, .int v3), (4, .ref (q v4)), (5, .int v5), (6, .int v6)]) hx hb dX6_odds_101 hl (k := 6) rfl rfl (by decide) rfl (fun ls hl => ?_)
  refine lv_goto (tgt := 53) hx hb dX6_odds_104 (by decide) ?_
  exact hrc53 v5 v6 (v7 + (1 : Int32)) hD _ _ _ I (lv_sub hl [1, 2, 3, 4, 5, 6, 0] rfl)
def D_X6_odds_98 (σ : St) (rc53 : Int32 → Int32 → Int32 → Option Int64) (v2 : Int32) (v3 : Int32) (v4 : Nat) (v6 : Int32) (v7 : Int32) (t0 : Int32) (t1 : Int32) : Option Int64 := D_X6_odds_101 σ rc53 v2 v3 v4 (t1 + t0) v6 v7
set_option maxRecDepth 100000 in
set_option maxHeartbeats 4000000 in
theorem w_X6_odds_98 {p : Program} {l : Launch} {e : Env} {s : State} {m : MethodId} {args : Array Value} {below : List Frame} {meth : Method} {c : Code} (g : Gh) (q : Nat → Nat) (X : MX p s m args meth c cX6_odds 8 (some .long) RX6) {rr : Int64} (σ : St)  (v2 : Int32) (v3 : Int32) (v4 : Nat) (v6 : Int32) (v7 : Int32) (t0 : Int32) (t1 : Int32) (kv4 : kRi v4) (rc53 : Int32 → Int32 → Int32 → Option Int64) (hrc53 : ∀ (v5' : Int32) (v6' : Int32) (v7' : Int32), rc53 v5' v6' v7' = some rr → ∀ (H : Heap) (locs : List Loc) (ls : Array Slot), IC g q s σ H locs → lv_has ls 8 [(0, .ref (q 0)), (2, .int v2), (3, .int v3), (4, .ref (q v4)), (5, .int v5'), (6, .int v6'), (7, .int v7')] → W p l e (rmD 2) s m args below meth c H locs 0 0 (MQ below (QL g (eC g q) q 23 rr σ s.heap.size) args s 0 0 (AQ q 23 s.heap.size)) (F0 m 53 ls [])) (hD : D_X6_odds_98 σ rc53 v2 v3 v4 v6 v7 t0 t1 = some rr) (H : Heap) (locs : List Loc) (ls : Array Slot) (I : IC g q s σ H locs) (hl : lv_has ls 8 [(0, .ref (q 0)), (2, .int v2), (3, .int v3), (4, .ref (q v4)), (6, .int v6), (7, .int v7)]) : W p l e (rmD 2) s m args below meth c H locs 0 0 (MQ below (QL g (eC g q) q 23 rr σ s.heap.size) args s 0 0 (AQ q 23 s.heap.size)) (F0 m 98 ls [.int t0, .int t1]) := by
  have hx := X.1
  have hb := X.2.1
  unfold D_X6_odds_98 at hD
  refine lv_iadd hx hb dX6_odds_98 ?_
  refine lv_istore (lv' := [(5, .int (t1 + t0)), (0, .ref (q 0)), (2, .int v2), (3, .int v3), (4, .ref (q v4)), (6, .int v6), (7, .int v7)]) hx hb dX6_odds_99 hl (by decide) rfl (fun ls hl => ?_)
  exact w_X6_odds_101 g q X σ v2 v3 v4 (t1 + t0) v6 v7 kv4 rc53 hrc53 hD _ _ _ I (lv_sub hl [1, 2, 3, 4, 0, 5, 6] rfl)
def D_X6_odds_53b (σ : St) (rc53 : Int32 → Int32 → Int32 → Option Int64) (v2 : Int32) (v3 : Int32) (v4 : Nat) (v5 : Int32) (v6 : Int32) (v7 : Int32) : Option Int64 := (D_X4_own σ v4).bind fun y34 => if y34 < v7 then D_X6_odds_107 σ v3 v5 v6 else (D_X4_owns σ v4 v7).bind fun y38 => if y38 = 0 then D_X6_odds_101 σ rc53 v2 v3 v4 v5 v6 v7 else (D_X2_yearsOff σ v4 v7).bind fun y46 => if y46 < v2 then D_X6_odds_98 σ rc53 v2 v3 v4 (v6 + (1 : Int32)) v7 (0 : Int32) v5 else D_X6_odds_98 σ rc53 v2 v3 v4 (v6 + (1 : Int32)) v7 (1 : Int32) v5
set_option maxRecDepth 100000 in
set_option maxHeartbeats 4000000 in
theorem w_X6_odds_53b {p : Program} {l : Launch} {e : Env} {s : State} {m : MethodId} {args : Array Value} {below : List Frame} {meth : Method} {c : Code} (g : Gh) (q : Nat → Nat) (X : MX p s m args meth c cX6_odds 8 (some .long) RX6) {rr : Int64} (σ : St)  (v2 : Int32) (v3 : Int32) (v4 : Nat) (v5 : Int32) (v6 : Int32) (v7 : Int32) (kv4 : kRi v4) (rc53 : Int32 → Int32 → Int32 → Option Int64) (hrc53 : ∀ (v5' : Int32) (v6' : Int32) (v7' : Int32), rc53 v5' v6' v7' = some rr → ∀ (H : Heap) (locs : List Loc) (ls : Array Slot), IC g q s σ H locs → lv_has ls 8 [(0, .ref (q 0)), (2, .int v2), (3, .int v3), (4, .ref (q v4)), (5, .int v5'), (6, .int v6'), (7, .int v7')] → W p l e (rmD 2) s m args below meth c H locs 0 0 (MQ below (QL g (eC g q) q 23 rr σ s.heap.size) args s 0 0 (AQ q 23 s.heap.size)) (F0 m 53 ls [])) (hD : D_X6_odds_53b σ rc53 v2 v3 v4 v5 v6 v7 = some rr) (H : Heap) (locs : List Loc) (ls : Array Slot) (I : IC g q s σ H locs) (hl : lv_has ls 8 [(0, .ref (q 0)), (2, .int v2), (3, .int v3), (4, .ref (q v4)), (5, .int v5), (6, .int v6), (7, .int v7)]) : W p l e (rmD 2) s m args below meth c H locs 0 0 (MQ below (QL g (eC g q) q 23 rr σ s.heap.size) args s 0 0 (AQ q 23 s.heap.size)) (F0 m 53 ls []) := by
  have hx := X.1
  have hb := X.2.1
  unfold D_X6_odds_53b at hD
  refine lv_iload hx hb dX6_odds_53 (lv_at hl 6 rfl) ?_
  refine lv_aload hx hb dX6_odds_55 (lv_at hl 3 rfl) ?_
  obtain ⟨y34, hy34, hD⟩ := bd_s hD
  refine r_calli (r_runV (As := []) (rest := [.int v7]) X I (c_X4_own l g q _ σ v4 kv4 hy34) kv_X4_own ml_X6_96 rfl (kRi_lt kv4) (eC_Rider g q _ kv4) ⟨Nat.le_of_ble_eq_true rfl, Nat.le_of_ble_eq_true rfl⟩ ⟨Nat.zero_le _, Nat.zero_le _⟩ rfl rfl hl.1 (Nat.le_of_ble_eq_true rfl) dX6_odds_57) I (fun H locs I => ?_)
  refine lv_icmp_gt (tgt := 107) hx hb dX6_odds_60 (by decide) (fun hc35 => ?_) (fun hc35 => ?_)
  · have hD := ite_p hc35 hD
    exact w_X6_odds_107 g q X σ v3 v5 v6 hD _ _ _ I (lv_sub hl [2, 4, 5] rfl)
  · have hD := ite_n hc35 hD
    refine lv_aload hx hb dX6_odds_63 (lv_at hl 3 rfl) ?_
    refine lv_iload hx hb dX6_odds_65 (lv_at hl 6 rfl) ?_
    obtain ⟨y38, hy38, hD⟩ := bd_s hD
    refine r_calli (r_runV (As := [.int v7]) (rest := []) X I (c_X4_owns l g q _ σ v4 v7 kv4 hy38) kv_X4_owns ml_X6_120 rfl (kRi_lt kv4) (eC_Rider g q _ kv4) ⟨Nat.le_of_ble_eq_true rfl, Nat.le_of_ble_eq_true rfl⟩ ⟨Nat.zero_le _, Nat.zero_le _⟩ rfl rfl hl.1 (Nat.le_of_ble_eq_true rfl) dX6_odds_67) I (fun H locs I => ?_)
    refine lv_if_eq (tgt := 101) hx hb dX6_odds_70 (by decide) (fun hc39 => ?_) (fun hc39 => ?_)
    · have hD := ite_p hc39 hD
      exact w_X6_odds_101 g q X σ v2 v3 v4 v5 v6 v7 kv4 rc53 hrc53 hD _ _ _ I (lv_sub hl [0, 1, 2, 3, 4, 5, 6] rfl)
    · have hD := ite_n hc39 hD
      refine lv_iinc (v := v6 + (1 : Int32)) (lv' := [(6, .int (v6 + (1 : Int32))), (0, .ref (q 0)), (2, .int v2), (3, .int v3), (4, .ref (q v4)), (5, .int v5), (7, .int v7)]) hx hb dX6_odds_73 hl (k := 5) rfl rfl (by decide) rfl (fun ls hl => ?_)
      refine lv_iload hx hb dX6_odds_76 (lv_at hl 5 rfl) ?_
      refine lv_aload_n hx hb dX6_odds_78 rfl (lv_at hl 1 rfl) ?_
      refine g_YearDeck_trip X I fl_X6_12 dX6_odds_79 ?_
      refine lv_aload hx hb dX6_odds_82 (lv_at hl 4 rfl) ?_
      refine lv_iload hx hb dX6_odds_84 (lv_at hl 6 rfl) ?_
      obtain ⟨y46, hy46, hD⟩ := bd_s hD
      refine r_calli (r_runV (As := [.ref (q v4), .int v7]) (rest := [.int v5]) X I (c_X2_yearsOff l g q _ σ v4 v7 kv4 hy46) kv_X2_yearsOff ml_X6_123 rfl (by decide) (eC_Ride g q _) ⟨Nat.le_of_ble_eq_true rfl, Nat.le_of_ble_eq_true rfl⟩ ⟨Nat.zero_le _, Nat.zero_le _⟩ rfl rfl hl.1 (Nat.le_of_ble_eq_true rfl) dX6_odds_86) I (fun H locs I => ?_)
      refine lv_iload_n hx hb dX6_odds_89 rfl (lv_at hl 2 rfl) ?_
      refine lv_icmp_lt (tgt := 97) hx hb dX6_odds_90 (by decide) (fun hc48 => ?_) (fun hc48 => ?_)
      · have hD := ite_p hc48 hD
        refine lv_iconst (v := 0) hx hb dX6_odds_97 (by decide) ?_
        exact w_X6_odds_98 g q X σ v2 v3 v4 (v6 + (1 : Int32)) v7 (0 : Int32) v5 kv4 rc53 hrc53 hD _ _ _ I (lv_sub hl [1, 2, 3, 4, 0, 6] rfl)
      · have hD := ite_n hc48 hD
        refine lv_iconst (v := 1) hx hb dX6_odds_93 (by decide) ?_
        refine lv_goto (tgt := 98) hx hb dX6_odds_94 (by decide) ?_
        exact w_X6_odds_98 g q X σ v2 v3 v4 (v6 + (1 : Int32)) v7 (1 : Int32) v5 kv4 rc53 hrc53 hD _ _ _ I (lv_sub hl [1, 2, 3, 4, 0, 6] rfl)
def D_X6_odds_53 (σ : St) (v2 : Int32) (v3 : Int32) (v4 : Nat) : Nat → Int32 → Int32 → Int32 → Option Int64
  | 0 => fun _ _ _ => none
  | n + 1 => fun v5 v6 v7 => D_X6_odds_53b σ (D_X6_odds_53 σ v2 v3 v4 n) v2 v3 v4 v5 v6 v7
set_option maxRecDepth 100000 in
set_option maxHeartbeats 4000000 in
theorem w_X6_odds_53 {p : Program} {l : Launch} {e : Env} {s : State} {m : MethodId} {args : Array Value} {below : List Frame} {meth : Method} {c : Code} (g : Gh) (q : Nat → Nat) (X : MX p s m args meth c cX6_odds 8 (some .long) RX6) {rr : Int64} (σ : St)  (v2 : Int32) (v3 : Int32) (v4 : Nat) (kv4 : kRi v4) : ∀ (n : Nat) (v5 : Int32) (v6 : Int32) (v7 : Int32), D_X6_odds_53 σ v2 v3 v4 n v5 v6 v7 = some rr → ∀ (H : Heap) (locs : List Loc) (ls : Array Slot), IC g q s σ H locs → lv_has ls 8 [(0, .ref (q 0)), (2, .int v2), (3, .int v3), (4, .ref (q v4)), (5, .int v5), (6, .int v6), (7, .int v7)] → W p l e (rmD 2) s m args below meth c H locs 0 0 (MQ below (QL g (eC g q) q 23 rr σ s.heap.size) args s 0 0 (AQ q 23 s.heap.size)) (F0 m 53 ls []) := by
  intro n
  induction n with
  | zero =>
    intro v5 v6 v7 hD H locs ls I hl
    cases hD
  | succ n ih =>
    intro v5 v6 v7 hD H locs ls I hl
    exact w_X6_odds_53b g q X σ v2 v3 v4 v5 v6 v7 kv4 _ ih hD H locs ls I hl
def D_X6_odds (σ : St) (p1 : Int32) (p2 : Int32) (p3 : Int32) : Option Int64 := (D_X2_hasRider σ p1).bind fun y4 => if y4 = 0 then some (-9223372036854775808 : Int64) else (D_X6_within σ p2 (199 : Int32)).bind fun y10 => if y10 = 0 then some (-9223372036854775808 : Int64) else (D_X6_within σ p3 (1 : Int32)).bind fun y16 => if y16 = 0 then some (-9223372036854775808 : Int64) else gd (inb p1 4) (D_X6_odds_53 σ p2 p3 (5 + p1.toNatClampNeg) FU (0 : Int32) (0 : Int32) (0 : Int32))
set_option maxRecDepth 100000 in
set_option maxHeartbeats 4000000 in
theorem c_X6_odds (l : Launch) (g : Gh) (q : Nat → Nat) (sz : Nat) (σ : St) (p1 : Int32) (p2 : Int32) (p3 : Int32) {rr : Int64} (hD : D_X6_odds σ p1 p2 p3 = some rr) : Met l yX6_odds (wU yX6_odds cX6_odds 8 (some .long)) (rmD 2) (PQ g (eC g q) q 23 σ sz [.ref (q 0), .int p1, .int p2, .int p3]) (QL g (eC g q) q 23 rr σ sz) 0 0 (AQ q 23 sz) := by
  refine met_of (Qc := QL g (eC g q) q 23 rr σ) (by decide) (Nat.le_of_ble_eq_true rfl) ?_
  intro p e s m below meth c ls X I hl
  have hx := X.1
  have hb := X.2.1
  have hl : lv_has ls 8 [(0, .ref (q 0)), (1, .int p1), (2, .int p2), (3, .int p3)] := hl
  unfold D_X6_odds at hD
  refine lv_aload_n hx hb dX6_odds_0 rfl (lv_at hl 0 rfl) ?_
  refine g_YearDeck_trip X I fl_X6_12 dX6_odds_1 ?_
  refine lv_iload_n hx hb dX6_odds_4 rfl (lv_at hl 1 rfl) ?_
  obtain ⟨y4, hy4, hD⟩ := bd_s hD
  refine r_calli (r_runV (As := [.int p1]) (rest := []) X I (c_X2_hasRider l g q _ σ p1 hy4) kv_X2_hasRider ml_X6_72 rfl (by decide) (eC_Ride g q _) ⟨Nat.le_of_ble_eq_true rfl, Nat.le_of_ble_eq_true rfl⟩ ⟨Nat.zero_le _, Nat.zero_le _⟩ rfl rfl hl.1 (Nat.le_of_ble_eq_true rfl) dX6_odds_5) I (fun H locs I => ?_)
  refine lv_if_eq (tgt := 29) hx hb dX6_odds_8 (by decide) (fun hc5 => ?_) (fun hc5 => ?_)
  · have hD := ite_p hc5 hD
    refine lv_ldc2 (v := -9223372036854775808) hx hb X.2.2.2.2.1 (X.2.2.2.2.2.1 _ cl_X6_190) dX6_odds_29 ?_
    exact r_lret X I hD dX6_odds_32
  · have hD := ite_n hc5 hD
    refine lv_iload_n hx hb dX6_odds_11 rfl (lv_at hl 2 rfl) ?_
    refine lv_sipush (v := 199) hx hb dX6_odds_12 (by decide) ?_
    obtain ⟨y10, hy10, hD⟩ := bd_s hD
    refine r_calli (r_runS (As := [.int p2, .int (199 : Int32)]) (rest := []) X I (c_X6_within l g q _ σ p2 (199 : Int32) hy10) ks_X6_within ml_X6_106 ⟨Nat.le_of_ble_eq_true rfl, Nat.le_of_ble_eq_true rfl⟩ ⟨Nat.zero_le _, Nat.zero_le _⟩ rfl rfl hl.1 (Nat.le_of_ble_eq_true rfl) dX6_odds_15) I (fun H locs I => ?_)
    refine lv_if_eq (tgt := 29) hx hb dX6_odds_18 (by decide) (fun hc11 => ?_) (fun hc11 => ?_)
    · have hD := ite_p hc11 hD
      refine lv_ldc2 (v := -9223372036854775808) hx hb X.2.2.2.2.1 (X.2.2.2.2.2.1 _ cl_X6_190) dX6_odds_29 ?_
      exact r_lret X I hD dX6_odds_32
    · have hD := ite_n hc11 hD
      refine lv_iload_n hx hb dX6_odds_21 rfl (lv_at hl 3 rfl) ?_
      refine lv_iconst (v := 1) hx hb dX6_odds_22 (by decide) ?_
      obtain ⟨y16, hy16, hD⟩ := bd_s hD
      refine r_calli (r_runS (As := [.int p3, .int (1 : Int32)]) (rest := []) X I (c_X6_within l g q _ σ p3 (1 : Int32) hy16) ks_X6_within ml_X6_106 ⟨Nat.le_of_ble_eq_true rfl, Nat.le_of_ble_eq_true rfl⟩ ⟨Nat.zero_le _, Nat.zero_le _⟩ rfl rfl hl.1 (Nat.le_of_ble_eq_true rfl) dX6_odds_23) I (fun H locs I => ?_)
      refine lv_if_ne (tgt := 33) hx hb dX6_odds_26 (by decide) (fun hc17 => ?_) (fun hc17 => ?_)
      · have hD := ite_n hc17 hD
        refine lv_aload_n hx hb dX6_odds_33 rfl (lv_at hl 0 rfl) ?_
        refine g_YearDeck_trip X I fl_X6_12 dX6_odds_34 ?_
        refine g_Ride_riders X I fl_X6_75 dX6_odds_37 ?_
        refine lv_iload_n hx hb dX6_odds_40 rfl (lv_at hl 1 rfl) ?_
        obtain ⟨hg22, hD⟩ := gd_s hD
        refine r_aald (t0 := 2) X I (by decide) rfl (eCr_3 g q _) hg22 dX6_odds_41 ?_
        refine lv_astore (lv' := [(4, .ref (q (5 + p1.toNatClampNeg))), (0, .ref (q 0)), (1, .int p1), (2, .int p2), (3, .int p3)]) hx hb dX6_odds_42 hl (by decide) rfl (fun ls hl => ?_)
        refine lv_iconst (v := 0) hx hb dX6_odds_44 (by decide) ?_
        refine lv_istore (lv' := [(5, .int (0 : Int32)), (4, .ref (q (5 + p1.toNatClampNeg))), (0, .ref (q 0)), (1, .int p1), (2, .int p2), (3, .int p3)]) hx hb dX6_odds_45 hl (by decide) rfl (fun ls hl => ?_)
        refine lv_iconst (v := 0) hx hb dX6_odds_47 (by decide) ?_
        refine lv_istore (lv' := [(6, .int (0 : Int32)), (5, .int (0 : Int32)), (4, .ref (q (5 + p1.toNatClampNeg))), (0, .ref (q 0)), (1, .int p1), (2, .int p2), (3, .int p3)]) hx hb dX6_odds_48 hl (by decide) rfl (fun ls hl => ?_)
        refine lv_iconst (v := 0) hx hb dX6_odds_50 (by decide) ?_
        refine lv_istore (lv' := [(7, .int (0 : Int32)), (6, .int (0 : Int32)), (5, .int (0 : Int32)), (4, .ref (q (5 + p1.toNatClampNeg))), (0, .ref (q 0)), (1, .int p1), (2, .int p2), (3, .int p3)]) hx hb dX6_odds_51 hl (by decide) rfl (fun ls hl => ?_)
        exact w_X6_odds_53 g q X σ p2 p3 (5 + p1.toNatClampNeg) (kRi_of hg22) FU (0 : Int32) (0 : Int32) (0 : Int32) hD _ _ _ I (lv_sub hl [4, 6, 7, 3, 2, 1, 0] rfl)
      · have hD := ite_p hc17 hD
        refine lv_ldc2 (v := -9223372036854775808) hx hb X.2.2.2.2.1 (X.2.2.2.2.2.1 _ cl_X6_190) dX6_odds_29 ?_
        exact r_lret X I hD dX6_odds_32

/-! YearDeck.sheet(III)I -/
def D_X6_sheet (σ : St) (p1 : Int32) (p2 : Int32) (p3 : Int32) : Option (Int32 × St) := (D_X6_isSheet (up2 σ 0 5 (0 : Int32)) p1).bind fun y5 => if y5 = 0 then some ((-1 : Int32), up2 σ 0 5 (0 : Int32)) else (D_X6_isLane (up2 σ 0 5 (0 : Int32)) p2).bind fun y8 => if y8 = 0 then some ((-2 : Int32), up2 σ 0 5 (0 : Int32)) else if p3 ≤ (60 : Int32) then if 0 ≤ p3 then gd (inb p1 4) ((D_X5_renew (up2 σ 0 5 (0 : Int32)) (14 + p1.toNatClampNeg) p2 p3).bind fun y23 => some ((1 : Int32), y23)) else (D_X6_failed (up2 σ 0 5 (0 : Int32)) (4 : Int32)).bind fun y28 => some (y28.1, y28.2) else some ((-2 : Int32), up2 σ 0 5 (0 : Int32))
set_option maxRecDepth 100000 in
set_option maxHeartbeats 4000000 in
theorem c_X6_sheet (l : Launch) (g : Gh) (q : Nat → Nat) (sz : Nat) (σ : St) (p1 : Int32) (p2 : Int32) (p3 : Int32) {rr : (Int32 × St)} (hD : D_X6_sheet σ p1 p2 p3 = some rr) : Met l yX6_sheet (wU yX6_sheet cX6_sheet 4 (some .int)) (rmD 2) (PQ g (eC g q) q 23 σ sz [.ref (q 0), .int p1, .int p2, .int p3]) (QI g (eC g q) q 23 rr.1 rr.2 sz) 0 0 (AQ q 23 sz) := by
  refine met_of (Qc := QI g (eC g q) q 23 rr.1 rr.2) (by decide) (Nat.le_of_ble_eq_true rfl) ?_
  intro p e s m below meth c ls X I hl
  have hx := X.1
  have hb := X.2.1
  have hl : lv_has ls 4 [(0, .ref (q 0)), (1, .int p1), (2, .int p2), (3, .int p3)] := hl
  unfold D_X6_sheet at hD
  refine lv_aload_n hx hb dX6_sheet_0 rfl (lv_at hl 0 rfl) ?_
  refine lv_iconst (v := 0) hx hb dX6_sheet_1 (by decide) ?_
  refine p_YearDeck_lastFault X I fl_X6_39 dX6_sheet_2 (fun H locs I => ?_)
  refine lv_iload_n hx hb dX6_sheet_5 rfl (lv_at hl 1 rfl) ?_
  obtain ⟨y5, hy5, hD⟩ := bd_s hD
  refine r_calli (r_runS (As := [.int p1]) (rest := []) X I (c_X6_isSheet l g q _ (up2 σ 0 5 (0 : Int32)) p1 hy5) ks_X6_isSheet ml_X6_43 ⟨Nat.le_of_ble_eq_true rfl, Nat.le_of_ble_eq_true rfl⟩ ⟨Nat.zero_le _, Nat.zero_le _⟩ rfl rfl hl.1 (Nat.le_of_ble_eq_true rfl) dX6_sheet_6) I (fun H locs I => ?_)
  refine lv_if_ne (tgt := 14) hx hb dX6_sheet_9 (by decide) (fun hc6 => ?_) (fun hc6 => ?_)
  · have hD := ite_n hc6 hD
    refine lv_iload_n hx hb dX6_sheet_14 rfl (lv_at hl 2 rfl) ?_
    obtain ⟨y8, hy8, hD⟩ := bd_s hD
    refine r_calli (r_runS (As := [.int p2]) (rest := []) X I (c_X6_isLane l g q _ (up2 σ 0 5 (0 : Int32)) p2 hy8) ks_X6_isLane ml_X6_47 ⟨Nat.le_of_ble_eq_true rfl, Nat.le_of_ble_eq_true rfl⟩ ⟨Nat.zero_le _, Nat.zero_le _⟩ rfl rfl hl.1 (Nat.le_of_ble_eq_true rfl) dX6_sheet_15) I (fun H locs I => ?_)
    refine lv_if_eq (tgt := 27) hx hb dX6_sheet_18 (by decide) (fun hc9 => ?_) (fun hc9 => ?_)
    · have hD := ite_p hc9 hD
      refine lv_bipush (v := -2) hx hb dX6_sheet_27 (by decide) ?_
      exact r_iret2 X I hD dX6_sheet_29
    · have hD := ite_n hc9 hD
      refine lv_iload_n hx hb dX6_sheet_21 rfl (lv_at hl 3 rfl) ?_
      refine lv_bipush (v := 60) hx hb dX6_sheet_22 (by decide) ?_
      refine lv_icmp_le (tgt := 30) hx hb dX6_sheet_24 (by decide) (fun hc14 => ?_) (fun hc14 => ?_)
      · have hD := ite_p hc14 hD
        refine lv_iload_n hx hb dX6_sheet_30 rfl (lv_at hl 3 rfl) ?_
        refine lv_if_ge (tgt := 40) hx hb dX6_sheet_31 (by decide) (fun hc16 => ?_) (fun hc16 => ?_)
        · have hD := ite_p hc16 hD
          refine lv_aload_n hx hb dX6_sheet_40 rfl (lv_at hl 0 rfl) ?_
          refine g_YearDeck_sheets X I fl_X6_27 dX6_sheet_41 ?_
          refine lv_iload_n hx hb dX6_sheet_44 rfl (lv_at hl 1 rfl) ?_
          obtain ⟨hg20, hD⟩ := gd_s hD
          refine r_aald (t0 := 3) X I (by decide) rfl (eCr_13 g q _) hg20 dX6_sheet_45 ?_
          refine lv_iload_n hx hb dX6_sheet_46 rfl (lv_at hl 2 rfl) ?_
          refine lv_iload_n hx hb dX6_sheet_47 rfl (lv_at hl 3 rfl) ?_
          obtain ⟨y23, hy23, hD⟩ := bd_s hD
          refine r_callv (r_runV (As := [.int p2, .int p3]) (rest := []) X I (c_X5_renew l g q _ (up2 σ 0 5 (0 : Int32)) (14 + p1.toNatClampNeg) p2 p3 (kSh_of hg20) hy23) kv_X5_renew ml_X6_192 rfl (kSh_lt (kSh_of hg20)) (eC_Sheet g q _ (kSh_of hg20)) ⟨Nat.le_of_ble_eq_true rfl, Nat.le_of_ble_eq_true rfl⟩ ⟨Nat.zero_le _, Nat.zero_le _⟩ rfl rfl hl.1 (Nat.le_of_ble_eq_true rfl) dX6_sheet_48) I (fun H locs I => ?_)
          refine lv_iconst (v := 1) hx hb dX6_sheet_51 (by decide) ?_
          exact r_iret2 X I hD dX6_sheet_52
        · have hD := ite_n hc16 hD
          refine lv_aload_n hx hb dX6_sheet_34 rfl (lv_at hl 0 rfl) ?_
          refine lv_iconst (v := 4) hx hb dX6_sheet_35 (by decide) ?_
          obtain ⟨y28, hy28, hD⟩ := bd_s hD
          refine r_calli (r_runV (As := [.int (4 : Int32)]) (rest := []) X I (c_X6_failed l g q _ (up2 σ 0 5 (0 : Int32)) (4 : Int32) hy28) kv_X6_failed ml_X6_54 rfl (by decide) (eC_YearDeck g q _) ⟨Nat.le_of_ble_eq_true rfl, Nat.le_of_ble_eq_true rfl⟩ ⟨Nat.zero_le _, Nat.zero_le _⟩ rfl rfl hl.1 (Nat.le_of_ble_eq_true rfl) dX6_sheet_36) I (fun H locs I => ?_)
          exact r_iret2 X I hD dX6_sheet_39
      · have hD := ite_n hc14 hD
        refine lv_bipush (v := -2) hx hb dX6_sheet_27 (by decide) ?_
        exact r_iret2 X I hD dX6_sheet_29
  · have hD := ite_p hc6 hD
    refine lv_iconst (v := -1) hx hb dX6_sheet_12 (by decide) ?_
    exact r_iret2 X I hD dX6_sheet_13

/-! YearDeck.lose(I)I -/
def D_X6_lose (σ : St) (p1 : Int32) : Option (Int32 × St) := (D_X6_isSheet σ p1).bind fun y2 => if y2 = 0 then some ((-1 : Int32), σ) else gd (inb p1 4) ((D_X5_hasRow σ (14 + p1.toNatClampNeg)).bind fun y8 => if y8 = 0 then some ((0 : Int32), σ) else gd (inb p1 4) ((D_X5_drop σ (14 + p1.toNatClampNeg)).bind fun y14 => some ((1 : Int32), y14)))
set_option maxRecDepth 100000 in
set_option maxHeartbeats 4000000 in
theorem c_X6_lose (l : Launch) (g : Gh) (q : Nat → Nat) (sz : Nat) (σ : St) (p1 : Int32) {rr : (Int32 × St)} (hD : D_X6_lose σ p1 = some rr) : Met l yX6_lose (wU yX6_lose cX6_lose 2 (some .int)) (rmD 2) (PQ g (eC g q) q 23 σ sz [.ref (q 0), .int p1]) (QI g (eC g q) q 23 rr.1 rr.2 sz) 0 0 (AQ q 23 sz) := by
  refine met_of (Qc := QI g (eC g q) q 23 rr.1 rr.2) (by decide) (Nat.le_of_ble_eq_true rfl) ?_
  intro p e s m below meth c ls X I hl
  have hx := X.1
  have hb := X.2.1
  have hl : lv_has ls 2 [(0, .ref (q 0)), (1, .int p1)] := hl
  unfold D_X6_lose at hD
  refine lv_iload_n hx hb dX6_lose_0 rfl (lv_at hl 1 rfl) ?_
  obtain ⟨y2, hy2, hD⟩ := bd_s hD
  refine r_calli (r_runS (As := [.int p1]) (rest := []) X I (c_X6_isSheet l g q _ σ p1 hy2) ks_X6_isSheet ml_X6_43 ⟨Nat.le_of_ble_eq_true rfl, Nat.le_of_ble_eq_true rfl⟩ ⟨Nat.zero_le _, Nat.zero_le _⟩ rfl rfl hl.1 (Nat.le_of_ble_eq_true rfl) dX6_lose_1) I (fun H locs I => ?_)
  refine lv_if_ne (tgt := 9) hx hb dX6_lose_4 (by decide) (fun hc3 => ?_) (fun hc3 => ?_)
  · have hD := ite_n hc3 hD
    refine lv_aload_n hx hb dX6_lose_9 rfl (lv_at hl 0 rfl) ?_
    refine g_YearDeck_sheets X I fl_X6_27 dX6_lose_10 ?_
    refine lv_iload_n hx hb dX6_lose_13 rfl (lv_at hl 1 rfl) ?_
    obtain ⟨hg7, hD⟩ := gd_s hD
    refine r_aald (t0 := 3) X I (by decide) rfl (eCr_13 g q _) hg7 dX6_lose_14 ?_
    obtain ⟨y8, hy8, hD⟩ := bd_s hD
    refine r_calli (r_runV (As := []) (rest := []) X I (c_X5_hasRow l g q _ σ (14 + p1.toNatClampNeg) (kSh_of hg7) hy8) kv_X5_hasRow ml_X6_196 rfl (kSh_lt (kSh_of hg7)) (eC_Sheet g q _ (kSh_of hg7)) ⟨Nat.le_of_ble_eq_true rfl, Nat.le_of_ble_eq_true rfl⟩ ⟨Nat.zero_le _, Nat.zero_le _⟩ rfl rfl hl.1 (Nat.le_of_ble_eq_true rfl) dX6_lose_15) I (fun H locs I => ?_)
    refine lv_if_ne (tgt := 23) hx hb dX6_lose_18 (by decide) (fun hc9 => ?_) (fun hc9 => ?_)
    · have hD := ite_n hc9 hD
      refine lv_aload_n hx hb dX6_lose_23 rfl (lv_at hl 0 rfl) ?_
      refine g_YearDeck_sheets X I fl_X6_27 dX6_lose_24 ?_
      refine lv_iload_n hx hb dX6_lose_27 rfl (lv_at hl 1 rfl) ?_
      obtain ⟨hg13, hD⟩ := gd_s hD
      refine r_aald (t0 := 3) X I (by decide) rfl (eCr_13 g q _) hg13 dX6_lose_28 ?_
      obtain ⟨y14, hy14, hD⟩ := bd_s hD
      refine r_callv (r_runV (As := []) (rest := []) X I (c_X5_drop l g q _ σ (14 + p1.toNatClampNeg) (kSh_of hg13) hy14) kv_X5_drop ml_X6_199 rfl (kSh_lt (kSh_of hg13)) (eC_Sheet g q _ (kSh_of hg13)) ⟨Nat.le_of_ble_eq_true rfl, Nat.le_of_ble_eq_true rfl⟩ ⟨Nat.zero_le _, Nat.zero_le _⟩ rfl rfl hl.1 (Nat.le_of_ble_eq_true rfl) dX6_lose_29) I (fun H locs I => ?_)
      refine lv_iconst (v := 1) hx hb dX6_lose_32 (by decide) ?_
      exact r_iret2 X I hD dX6_lose_33
    · have hD := ite_p hc9 hD
      refine lv_iconst (v := 0) hx hb dX6_lose_21 (by decide) ?_
      exact r_iret2 X I hD dX6_lose_22
  · have hD := ite_p hc3 hD
    refine lv_iconst (v := -1) hx hb dX6_lose_7 (by decide) ?_
    exact r_iret2 X I hD dX6_lose_8

/-! YearDeck.put(III)I -/
def D_X6_put (σ : St) (p1 : Int32) (p2 : Int32) (p3 : Int32) : Option (Int32 × St) := (D_X6_isSheet (up2 σ 0 5 (0 : Int32)) p1).bind fun y5 => if y5 = 0 then some ((-1 : Int32), up2 σ 0 5 (0 : Int32)) else gd (inb p1 4) ((D_X5_hasRow (up2 σ 0 5 (0 : Int32)) (14 + p1.toNatClampNeg)).bind fun y13 => if y13 = 0 then (D_X6_failed (up2 σ 0 5 (0 : Int32)) (1 : Int32)).bind fun y31 => some (y31.1, y31.2) else (D_X5_hasCell (up2 σ 0 5 (0 : Int32)) (14 + p1.toNatClampNeg) p2).bind fun y17 => if y17 = 0 then (D_X6_failed (up2 σ 0 5 (0 : Int32)) (3 : Int32)).bind fun y27 => some (y27.1, y27.2) else (D_X5_write (up2 σ 0 5 (0 : Int32)) (14 + p1.toNatClampNeg) p2 p3).bind fun y22 => some ((1 : Int32), y22))
set_option maxRecDepth 100000 in
set_option maxHeartbeats 4000000 in
theorem c_X6_put (l : Launch) (g : Gh) (q : Nat → Nat) (sz : Nat) (σ : St) (p1 : Int32) (p2 : Int32) (p3 : Int32) {rr : (Int32 × St)} (hD : D_X6_put σ p1 p2 p3 = some rr) : Met l yX6_put (wU yX6_put cX6_put 5 (some .int)) (rmD 2) (PQ g (eC g q) q 23 σ sz [.ref (q 0), .int p1, .int p2, .int p3]) (QI g (eC g q) q 23 rr.1 rr.2 sz) 0 0 (AQ q 23 sz) := by
  refine met_of (Qc := QI g (eC g q) q 23 rr.1 rr.2) (by decide) (Nat.le_of_ble_eq_true rfl) ?_
  intro p e s m below meth c ls X I hl
  have hx := X.1
  have hb := X.2.1
  have hl : lv_has ls 5 [(0, .ref (q 0)), (1, .int p1), (2, .int p2), (3, .int p3)] := hl
  unfold D_X6_put at hD
  refine lv_aload_n hx hb dX6_put_0 rfl (lv_at hl 0 rfl) ?_
  refine lv_iconst (v := 0) hx hb dX6_put_1 (by decide) ?_
  refine p_YearDeck_lastFault X I fl_X6_39 dX6_put_2 (fun H locs I => ?_)
  refine lv_iload_n hx hb dX6_put_5 rfl (lv_at hl 1 rfl) ?_
  obtain ⟨y5, hy5, hD⟩ := bd_s hD
  refine r_calli (r_runS (As := [.int p1]) (rest := []) X I (c_X6_isSheet l g q _ (up2 σ 0 5 (0 : Int32)) p1 hy5) ks_X6_isSheet ml_X6_43 ⟨Nat.le_of_ble_eq_true rfl, Nat.le_of_ble_eq_true rfl⟩ ⟨Nat.zero_le _, Nat.zero_le _⟩ rfl rfl hl.1 (Nat.le_of_ble_eq_true rfl) dX6_put_6) I (fun H locs I => ?_)
  refine lv_if_ne (tgt := 14) hx hb dX6_put_9 (by decide) (fun hc6 => ?_) (fun hc6 => ?_)
  · have hD := ite_n hc6 hD
    refine lv_aload_n hx hb dX6_put_14 rfl (lv_at hl 0 rfl) ?_
    refine g_YearDeck_sheets X I fl_X6_27 dX6_put_15 ?_
    refine lv_iload_n hx hb dX6_put_18 rfl (lv_at hl 1 rfl) ?_
    obtain ⟨hg10, hD⟩ := gd_s hD
    refine r_aald (t0 := 3) X I (by decide) rfl (eCr_13 g q _) hg10 dX6_put_19 ?_
    refine lv_astore (lv' := [(4, .ref (q (14 + p1.toNatClampNeg))), (0, .ref (q 0)), (1, .int p1), (2, .int p2), (3, .int p3)]) hx hb dX6_put_20 hl (by decide) rfl (fun ls hl => ?_)
    refine lv_aload hx hb dX6_put_22 (lv_at hl 0 rfl) ?_
    obtain ⟨y13, hy13, hD⟩ := bd_s hD
    refine r_calli (r_runV (As := []) (rest := []) X I (c_X5_hasRow l g q _ (up2 σ 0 5 (0 : Int32)) (14 + p1.toNatClampNeg) (kSh_of hg10) hy13) kv_X5_hasRow ml_X6_196 rfl (kSh_lt (kSh_of hg10)) (eC_Sheet g q _ (kSh_of hg10)) ⟨Nat.le_of_ble_eq_true rfl, Nat.le_of_ble_eq_true rfl⟩ ⟨Nat.zero_le _, Nat.zero_le _⟩ rfl rfl hl.1 (Nat.le_of_ble_eq_true rfl) dX6_put_24) I (fun H locs I => ?_)
    refine lv_if_ne (tgt := 36) hx hb dX6_put_27 (by decide) (fun hc14 => ?_) (fun hc14 => ?_)
    · have hD := ite_n hc14 hD
      refine lv_aload hx hb dX6_put_36 (lv_at hl 0 rfl) ?_
      refine lv_iload_n hx hb dX6_put_38 rfl (lv_at hl 3 rfl) ?_
      obtain ⟨y17, hy17, hD⟩ := bd_s hD
      refine r_calli (r_runV (As := [.int p2]) (rest := []) X I (c_X5_hasCell l g q _ (up2 σ 0 5 (0 : Int32)) (14 + p1.toNatClampNeg) p2 (kSh_of hg10) hy17) kv_X5_hasCell ml_X6_202 rfl (kSh_lt (kSh_of hg10)) (eC_Sheet g q _ (kSh_of hg10)) ⟨Nat.le_of_ble_eq_true rfl, Nat.le_of_ble_eq_true rfl⟩ ⟨Nat.zero_le _, Nat.zero_le _⟩ rfl rfl hl.1 (Nat.le_of_ble_eq_true rfl) dX6_put_39) I (fun H locs I => ?_)
      refine lv_if_ne (tgt := 51) hx hb dX6_put_42 (by decide) (fun hc18 => ?_) (fun hc18 => ?_)
      · have hD := ite_n hc18 hD
        refine lv_aload hx hb dX6_put_51 (lv_at hl 0 rfl) ?_
        refine lv_iload_n hx hb dX6_put_53 rfl (lv_at hl 3 rfl) ?_
        refine lv_iload_n hx hb dX6_put_54 rfl (lv_at hl 4 rfl) ?_
        obtain ⟨y22, hy22, hD⟩ := bd_s hD
        refine r_callv (r_runV (As := [.int p2, .int p3]) (rest := []) X I (c_X5_write l g q _ (up2 σ 0 5 (0 : Int32)) (14 + p1.toNatClampNeg) p2 p3 (kSh_of hg10) hy22) kv_X5_write ml_X6_205 rfl (kSh_lt (kSh_of hg10)) (eC_Sheet g q _ (kSh_of hg10)) ⟨Nat.le_of_ble_eq_true rfl, Nat.le_of_ble_eq_true rfl⟩ ⟨Nat.zero_le _, Nat.zero_le _⟩ rfl rfl hl.1 (Nat.le_of_ble_eq_true rfl) dX6_put_55) I (fun H locs I => ?_)
        refine lv_iconst (v := 1) hx hb dX6_put_58 (by decide) ?_
        exact r_iret2 X I hD dX6_put_59
      · have hD := ite_p hc18 hD
        refine lv_aload_n hx hb dX6_put_45 rfl (lv_at hl 1 rfl) ?_
        refine lv_iconst (v := 3) hx hb dX6_put_46 (by decide) ?_
        obtain ⟨y27, hy27, hD⟩ := bd_s hD
        refine r_calli (r_runV (As := [.int (3 : Int32)]) (rest := []) X I (c_X6_failed l g q _ (up2 σ 0 5 (0 : Int32)) (3 : Int32) hy27) kv_X6_failed ml_X6_54 rfl (by decide) (eC_YearDeck g q _) ⟨Nat.le_of_ble_eq_true rfl, Nat.le_of_ble_eq_true rfl⟩ ⟨Nat.zero_le _, Nat.zero_le _⟩ rfl rfl hl.1 (Nat.le_of_ble_eq_true rfl) dX6_put_47) I (fun H locs I => ?_)
        exact r_iret2 X I hD dX6_put_50
    · have hD := ite_p hc14 hD
      refine lv_aload_n hx hb dX6_put_30 rfl (lv_at hl 1 rfl) ?_
      refine lv_iconst (v := 1) hx hb dX6_put_31 (by decide) ?_
      obtain ⟨y31, hy31, hD⟩ := bd_s hD
      refine r_calli (r_runV (As := [.int (1 : Int32)]) (rest := []) X I (c_X6_failed l g q _ (up2 σ 0 5 (0 : Int32)) (1 : Int32) hy31) kv_X6_failed ml_X6_54 rfl (by decide) (eC_YearDeck g q _) ⟨Nat.le_of_ble_eq_true rfl, Nat.le_of_ble_eq_true rfl⟩ ⟨Nat.zero_le _, Nat.zero_le _⟩ rfl rfl hl.1 (Nat.le_of_ble_eq_true rfl) dX6_put_32) I (fun H locs I => ?_)
      exact r_iret2 X I hD dX6_put_35
  · have hD := ite_p hc6 hD
    refine lv_iconst (v := -1) hx hb dX6_put_12 (by decide) ?_
    exact r_iret2 X I hD dX6_put_13

/-! YearDeck.cell(III)J -/
def D_X6_cell_62 (σ : St) (v2 : Int32) (v4 : Nat) : Option (Int64 × St) := if (σ 0 5) = 0 then (D_X5_at σ v4 v2).bind fun y41 => some (y41.toInt64, σ) else some ((-9223372036854775808 : Int64), σ)
set_option maxRecDepth 100000 in
set_option maxHeartbeats 4000000 in
theorem w_X6_cell_62 {p : Program} {l : Launch} {e : Env} {s : State} {m : MethodId} {args : Array Value} {below : List Frame} {meth : Method} {c : Code} (g : Gh) (q : Nat → Nat) (X : MX p s m args meth c cX6_cell 5 (some .long) RX6) {rr : (Int64 × St)} (σ : St)  (v2 : Int32) (v4 : Nat) (kv4 : kSh v4) (hD : D_X6_cell_62 σ v2 v4 = some rr) (H : Heap) (locs : List Loc) (ls : Array Slot) (I : IC g q s σ H locs) (hl : lv_has ls 5 [(0, .ref (q 0)), (2, .int v2), (4, .ref (q v4))]) : W p l e (rmD 2) s m args below meth c H locs 0 0 (MQ below (QL g (eC g q) q 23 rr.1 rr.2 s.heap.size) args s 0 0 (AQ q 23 s.heap.size)) (F0 m 62 ls []) := by
  have hx := X.1
  have hb := X.2.1
  unfold D_X6_cell_62 at hD
  refine lv_aload_n hx hb dX6_cell_62 rfl (lv_at hl 0 rfl) ?_
  refine g_YearDeck_lastFault X I fl_X6_39 dX6_cell_63 ?_
  refine lv_if_ne (tgt := 79) hx hb dX6_cell_66 (by decide) (fun hc36 => ?_) (fun hc36 => ?_)
  · have hD := ite_n hc36 hD
    refine lv_ldc2 (v := -9223372036854775808) hx hb X.2.2.2.2.1 (X.2.2.2.2.2.1 _ cl_X6_190) dX6_cell_79 ?_
    exact r_lret2 X I hD dX6_cell_82
  · have hD := ite_p hc36 hD
    refine lv_aload hx hb dX6_cell_69 (lv_at hl 2 rfl) ?_
    refine lv_iload_n hx hb dX6_cell_71 rfl (lv_at hl 1 rfl) ?_
    obtain ⟨y41, hy41, hD⟩ := bd_s hD
    refine r_calli (r_runV (As := [.int v2]) (rest := []) X I (c_X5_at l g q _ σ v4 v2 kv4 hy41) kv_X5_at ml_X6_137 rfl (kSh_lt kv4) (eC_Sheet g q _ kv4) ⟨Nat.le_of_ble_eq_true rfl, Nat.le_of_ble_eq_true rfl⟩ ⟨Nat.zero_le _, Nat.zero_le _⟩ rfl rfl hl.1 (Nat.le_of_ble_eq_true rfl) dX6_cell_72) I (fun H locs I => ?_)
    refine lv_i2l hx hb dX6_cell_75 rfl ?_
    refine lv_goto (tgt := 82) hx hb dX6_cell_76 (by decide) ?_
    exact r_lret2 X I hD dX6_cell_82
def D_X6_cell (σ : St) (p1 : Int32) (p2 : Int32) (p3 : Int32) : Option (Int64 × St) := (D_X6_isSheet (up2 σ 0 5 (0 : Int32)) p1).bind fun y5 => if y5 = 0 then some ((-9223372036854775808 : Int64), up2 σ 0 5 (0 : Int32)) else (D_X6_isLane (up2 σ 0 5 (0 : Int32)) p3).bind fun y10 => if y10 = 0 then some ((-9223372036854775808 : Int64), up2 σ 0 5 (0 : Int32)) else gd (inb p1 4) ((D_X5_faultOfRow (up2 σ 0 5 (0 : Int32)) (14 + p1.toNatClampNeg) p3).bind fun y20 => if ((up2 (up2 σ 0 5 (0 : Int32)) 0 5 y20) 0 5) = 0 then (D_X5_hasCell (up2 (up2 σ 0 5 (0 : Int32)) 0 5 y20) (14 + p1.toNatClampNeg) p2).bind fun y27 => if y27 = 0 then D_X6_cell_62 (up2 (up2 (up2 σ 0 5 (0 : Int32)) 0 5 y20) 0 5 (3 : Int32)) p2 (14 + p1.toNatClampNeg) else D_X6_cell_62 (up2 (up2 σ 0 5 (0 : Int32)) 0 5 y20) p2 (14 + p1.toNatClampNeg) else D_X6_cell_62 (up2 (up2 σ 0 5 (0 : Int32)) 0 5 y20) p2 (14 + p1.toNatClampNeg))
set_option maxRecDepth 100000 in
set_option maxHeartbeats 4000000 in
theorem c_X6_cell (l : Launch) (g : Gh) (q : Nat → Nat) (sz : Nat) (σ : St) (p1 : Int32) (p2 : Int32) (p3 : Int32) {rr : (Int64 × St)} (hD : D_X6_cell σ p1 p2 p3 = some rr) : Met l yX6_cell (wU yX6_cell cX6_cell 5 (some .long)) (rmD 2) (PQ g (eC g q) q 23 σ sz [.ref (q 0), .int p1, .int p2, .int p3]) (QL g (eC g q) q 23 rr.1 rr.2 sz) 0 0 (AQ q 23 sz) := by
  refine met_of (Qc := QL g (eC g q) q 23 rr.1 rr.2) (by decide) (Nat.le_of_ble_eq_true rfl) ?_
  intro p e s m below meth c ls X I hl
  have hx := X.1
  have hb := X.2.1
  have hl : lv_has ls 5 [(0, .ref (q 0)), (1, .int p1), (2, .int p2), (3, .int p3)] := hl
  unfold D_X6_cell at hD
  refine lv_aload_n hx hb dX6_cell_0 rfl (lv_at hl 0 rfl) ?_
  refine lv_iconst (v := 0) hx hb dX6_cell_1 (by decide) ?_
  refine p_YearDeck_lastFault X I fl_X6_39 dX6_cell_2 (fun H locs I => ?_)
  refine lv_iload_n hx hb dX6_cell_5 rfl (lv_at hl 1 rfl) ?_
  obtain ⟨y5, hy5, hD⟩ := bd_s hD
  refine r_calli (r_runS (As := [.int p1]) (rest := []) X I (c_X6_isSheet l g q _ (up2 σ 0 5 (0 : Int32)) p1 hy5) ks_X6_isSheet ml_X6_43 ⟨Nat.le_of_ble_eq_true rfl, Nat.le_of_ble_eq_true rfl⟩ ⟨Nat.zero_le _, Nat.zero_le _⟩ rfl rfl hl.1 (Nat.le_of_ble_eq_true rfl) dX6_cell_6) I (fun H locs I => ?_)
  refine lv_if_eq (tgt := 19) hx hb dX6_cell_9 (by decide) (fun hc6 => ?_) (fun hc6 => ?_)
  · have hD := ite_p hc6 hD
    refine lv_ldc2 (v := -9223372036854775808) hx hb X.2.2.2.2.1 (X.2.2.2.2.2.1 _ cl_X6_190) dX6_cell_19 ?_
    exact r_lret2 X I hD dX6_cell_22
  · have hD := ite_n hc6 hD
    refine lv_iload_n hx hb dX6_cell_12 rfl (lv_at hl 3 rfl) ?_
    obtain ⟨y10, hy10, hD⟩ := bd_s hD
    refine r_calli (r_runS (As := [.int p3]) (rest := []) X I (c_X6_isLane l g q _ (up2 σ 0 5 (0 : Int32)) p3 hy10) ks_X6_isLane ml_X6_47 ⟨Nat.le_of_ble_eq_true rfl, Nat.le_of_ble_eq_true rfl⟩ ⟨Nat.zero_le _, Nat.zero_le _⟩ rfl rfl hl.1 (Nat.le_of_ble_eq_true rfl) dX6_cell_13) I (fun H locs I => ?_)
    refine lv_if_ne (tgt := 23) hx hb dX6_cell_16 (by decide) (fun hc11 => ?_) (fun hc11 => ?_)
    · have hD := ite_n hc11 hD
      refine lv_aload_n hx hb dX6_cell_23 rfl (lv_at hl 0 rfl) ?_
      refine g_YearDeck_sheets X I fl_X6_27 dX6_cell_24 ?_
      refine lv_iload_n hx hb dX6_cell_27 rfl (lv_at hl 1 rfl) ?_
      obtain ⟨hg15, hD⟩ := gd_s hD
      refine r_aald (t0 := 3) X I (by decide) rfl (eCr_13 g q _) hg15 dX6_cell_28 ?_
      refine lv_astore (lv' := [(4, .ref (q (14 + p1.toNatClampNeg))), (0, .ref (q 0)), (1, .int p1), (2, .int p2), (3, .int p3)]) hx hb dX6_cell_29 hl (by decide) rfl (fun ls hl => ?_)
      refine lv_aload_n hx hb dX6_cell_31 rfl (lv_at hl 1 rfl) ?_
      refine lv_aload hx hb dX6_cell_32 (lv_at hl 0 rfl) ?_
      refine lv_iload_n hx hb dX6_cell_34 rfl (lv_at hl 4 rfl) ?_
      obtain ⟨y20, hy20, hD⟩ := bd_s hD
      refine r_calli (r_runV (As := [.int p3]) (rest := [.ref (q 0)]) X I (c_X5_faultOfRow l g q _ (up2 σ 0 5 (0 : Int32)) (14 + p1.toNatClampNeg) p3 (kSh_of hg15) hy20) kv_X5_faultOfRow ml_X6_208 rfl (kSh_lt (kSh_of hg15)) (eC_Sheet g q _ (kSh_of hg15)) ⟨Nat.le_of_ble_eq_true rfl, Nat.le_of_ble_eq_true rfl⟩ ⟨Nat.zero_le _, Nat.zero_le _⟩ rfl rfl hl.1 (Nat.le_of_ble_eq_true rfl) dX6_cell_35) I (fun H locs I => ?_)
      refine p_YearDeck_lastFault X I fl_X6_39 dX6_cell_38 (fun H locs I => ?_)
      refine lv_aload_n hx hb dX6_cell_41 rfl (lv_at hl 1 rfl) ?_
      refine g_YearDeck_lastFault X I fl_X6_39 dX6_cell_42 ?_
      refine lv_if_ne (tgt := 62) hx hb dX6_cell_45 (by decide) (fun hc24 => ?_) (fun hc24 => ?_)
      · have hD := ite_n hc24 hD
        exact w_X6_cell_62 g q X (up2 (up2 σ 0 5 (0 : Int32)) 0 5 y20) p2 (14 + p1.toNatClampNeg) (kSh_of hg15) hD _ _ _ I (lv_sub hl [1, 3, 0] rfl)
      · have hD := ite_p hc24 hD
        refine lv_aload hx hb dX6_cell_48 (lv_at hl 0 rfl) ?_
        refine lv_iload_n hx hb dX6_cell_50 rfl (lv_at hl 3 rfl) ?_
        obtain ⟨y27, hy27, hD⟩ := bd_s hD
        refine r_calli (r_runV (As := [.int p2]) (rest := []) X I (c_X5_hasCell l g q _ (up2 (up2 σ 0 5 (0 : Int32)) 0 5 y20) (14 + p1.toNatClampNeg) p2 (kSh_of hg15) hy27) kv_X5_hasCell ml_X6_202 rfl (kSh_lt (kSh_of hg15)) (eC_Sheet g q _ (kSh_of hg15)) ⟨Nat.le_of_ble_eq_true rfl, Nat.le_of_ble_eq_true rfl⟩ ⟨Nat.zero_le _, Nat.zero_le _⟩ rfl rfl hl.1 (Nat.le_of_ble_eq_true rfl) dX6_cell_51) I (fun H locs I => ?_)
        refine lv_if_ne (tgt := 62) hx hb dX6_cell_54 (by decide) (fun hc28 => ?_) (fun hc28 => ?_)
        · have hD := ite_n hc28 hD
          exact w_X6_cell_62 g q X (up2 (up2 σ 0 5 (0 : Int32)) 0 5 y20) p2 (14 + p1.toNatClampNeg) (kSh_of hg15) hD _ _ _ I (lv_sub hl [1, 3, 0] rfl)
        · have hD := ite_p hc28 hD
          refine lv_aload_n hx hb dX6_cell_57 rfl (lv_at hl 1 rfl) ?_
          refine lv_iconst (v := 3) hx hb dX6_cell_58 (by decide) ?_
          refine p_YearDeck_lastFault X I fl_X6_39 dX6_cell_59 (fun H locs I => ?_)
          exact w_X6_cell_62 g q X (up2 (up2 (up2 σ 0 5 (0 : Int32)) 0 5 y20) 0 5 (3 : Int32)) p2 (14 + p1.toNatClampNeg) (kSh_of hg15) hD _ _ _ I (lv_sub hl [1, 3, 0] rfl)
    · have hD := ite_p hc11 hD
      refine lv_ldc2 (v := -9223372036854775808) hx hb X.2.2.2.2.1 (X.2.2.2.2.2.1 _ cl_X6_190) dX6_cell_19 ?_
      exact r_lret2 X I hD dX6_cell_22

/-! YearDeck.copy(IIIII)I -/
def D_X6_copy_101 (σ : St) : Option (Int32 × St) := (D_X6_failed σ (3 : Int32)).bind fun y65 => some (y65.1, y65.2)
set_option maxRecDepth 100000 in
set_option maxHeartbeats 4000000 in
theorem w_X6_copy_101 {p : Program} {l : Launch} {e : Env} {s : State} {m : MethodId} {args : Array Value} {below : List Frame} {meth : Method} {c : Code} (g : Gh) (q : Nat → Nat) (X : MX p s m args meth c cX6_copy 8 (some .int) RX6) {rr : (Int32 × St)} (σ : St)  (hD : D_X6_copy_101 σ = some rr) (H : Heap) (locs : List Loc) (ls : Array Slot) (I : IC g q s σ H locs) (hl : lv_has ls 8 [(0, .ref (q 0))]) : W p l e (rmD 2) s m args below meth c H locs 0 0 (MQ below (QI g (eC g q) q 23 rr.1 rr.2 s.heap.size) args s 0 0 (AQ q 23 s.heap.size)) (F0 m 101 ls []) := by
  have hx := X.1
  have hb := X.2.1
  unfold D_X6_copy_101 at hD
  refine lv_aload_n hx hb dX6_copy_101 rfl (lv_at hl 0 rfl) ?_
  refine lv_iconst (v := 3) hx hb dX6_copy_102 (by decide) ?_
  obtain ⟨y65, hy65, hD⟩ := bd_s hD
  refine r_calli (r_runV (As := [.int (3 : Int32)]) (rest := []) X I (c_X6_failed l g q _ σ (3 : Int32) hy65) kv_X6_failed ml_X6_54 rfl (by decide) (eC_YearDeck g q _) ⟨Nat.le_of_ble_eq_true rfl, Nat.le_of_ble_eq_true rfl⟩ ⟨Nat.zero_le _, Nat.zero_le _⟩ rfl rfl hl.1 (Nat.le_of_ble_eq_true rfl) dX6_copy_103) I (fun H locs I => ?_)
  exact r_iret2 X I hD dX6_copy_106
def D_X6_copy_53 (σ : St) : Option (Int32 × St) := (D_X6_failed σ (1 : Int32)).bind fun y61 => some (y61.1, y61.2)
set_option maxRecDepth 100000 in
set_option maxHeartbeats 4000000 in
theorem w_X6_copy_53 {p : Program} {l : Launch} {e : Env} {s : State} {m : MethodId} {args : Array Value} {below : List Frame} {meth : Method} {c : Code} (g : Gh) (q : Nat → Nat) (X : MX p s m args meth c cX6_copy 8 (some .int) RX6) {rr : (Int32 × St)} (σ : St)  (hD : D_X6_copy_53 σ = some rr) (H : Heap) (locs : List Loc) (ls : Array Slot) (I : IC g q s σ H locs) (hl : lv_has ls 8 [(0, .ref (q 0))]) : W p l e (rmD 2) s m args below meth c H locs 0 0 (MQ below (QI g (eC g q) q 23 rr.1 rr.2 s.heap.size) args s 0 0 (AQ q 23 s.heap.size)) (F0 m 53 ls []) := by
  have hx := X.1
  have hb := X.2.1
  unfold D_X6_copy_53 at hD
  refine lv_aload_n hx hb dX6_copy_53 rfl (lv_at hl 0 rfl) ?_
  refine lv_iconst (v := 1) hx hb dX6_copy_54 (by decide) ?_
  obtain ⟨y61, hy61, hD⟩ := bd_s hD
  refine r_calli (r_runV (As := [.int (1 : Int32)]) (rest := []) X I (c_X6_failed l g q _ σ (1 : Int32) hy61) kv_X6_failed ml_X6_54 rfl (by decide) (eC_YearDeck g q _) ⟨Nat.le_of_ble_eq_true rfl, Nat.le_of_ble_eq_true rfl⟩ ⟨Nat.zero_le _, Nat.zero_le _⟩ rfl rfl hl.1 (Nat.le_of_ble_eq_true rfl) dX6_copy_55) I (fun H locs I => ?_)
  exact r_iret2 X I hD dX6_copy_58
def D_X6_copy (σ : St) (p1 : Int32) (p2 : Int32) (p3 : Int32) (p4 : Int32) (p5 : Int32) : Option (Int32 × St) := (D_X6_isSheet (up2 σ 0 5 (0 : Int32)) p1).bind fun y5 => if y5 = 0 then some ((-1 : Int32), up2 σ 0 5 (0 : Int32)) else (D_X6_isSheet (up2 σ 0 5 (0 : Int32)) p3).bind fun y10 => if y10 = 0 then some ((-1 : Int32), up2 σ 0 5 (0 : Int32)) else gd (inb p1 4) (gd (inb p3 4) ((D_X5_hasRow (up2 σ 0 5 (0 : Int32)) (14 + p1.toNatClampNeg)).bind fun y23 => if y23 = 0 then D_X6_copy_53 (up2 σ 0 5 (0 : Int32)) else (D_X5_hasRow (up2 σ 0 5 (0 : Int32)) (14 + p3.toNatClampNeg)).bind fun y26 => if y26 = 0 then D_X6_copy_53 (up2 σ 0 5 (0 : Int32)) else if ((up2 σ 0 5 (0 : Int32)) (14 + p1.toNatClampNeg) 1) = ((up2 σ 0 5 (0 : Int32)) (14 + p3.toNatClampNeg) 1) then (D_X5_hasCells (up2 σ 0 5 (0 : Int32)) (14 + p1.toNatClampNeg) p2 p5).bind fun y36 => if y36 = 0 then D_X6_copy_101 (up2 σ 0 5 (0 : Int32)) else (D_X5_hasCells (up2 σ 0 5 (0 : Int32)) (14 + p3.toNatClampNeg) p4 p5).bind fun y41 => if y41 = 0 then D_X6_copy_101 (up2 σ 0 5 (0 : Int32)) else gd (cpok p2 p4 p5 60) (some (p5, cp2 (up2 σ 0 5 (0 : Int32)) ((14 + p1.toNatClampNeg) + 4) p2.toNatClampNeg ((14 + p3.toNatClampNeg) + 4) p4.toNatClampNeg p5.toNatClampNeg)) else (D_X6_failed (up2 σ 0 5 (0 : Int32)) (2 : Int32)).bind fun y55 => some (y55.1, y55.2)))
set_option maxRecDepth 100000 in
set_option maxHeartbeats 4000000 in
theorem c_X6_copy (l : Launch) (g : Gh) (q : Nat → Nat) (sz : Nat) (σ : St) (p1 : Int32) (p2 : Int32) (p3 : Int32) (p4 : Int32) (p5 : Int32) {rr : (Int32 × St)} (hD : D_X6_copy σ p1 p2 p3 p4 p5 = some rr) : Met l yX6_copy (wU yX6_copy cX6_copy 8 (some .int)) (rmD 2) (PQ g (eC g q) q 23 σ sz [.ref (q 0), .int p1, .int p2, .int p3, .int p4, .int p5]) (QI g (eC g q) q 23 rr.1 rr.2 sz) 0 0 (AQ q 23 sz) := by
  refine met_of (Qc := QI g (eC g q) q 23 rr.1 rr.2) (by decide) (Nat.le_of_ble_eq_true rfl) ?_
  intro p e s m below meth c ls X I hl
  have hx := X.1
  have hb := X.2.1
  have hl : lv_has ls 8 [(0, .ref (q 0)), (1, .int p1), (2, .int p2), (3, .int p3), (4, .int p4), (5, .int p5)] := hl
  unfold D_X6_copy at hD
  refine lv_aload_n hx hb dX6_copy_0 rfl (lv_at hl 0 rfl) ?_
  refine lv_iconst (v := 0) hx hb dX6_copy_1 (by decide) ?_
  refine p_YearDeck_lastFault X I fl_X6_39 dX6_copy_2 (fun H locs I => ?_)
  refine lv_iload_n hx hb dX6_copy_5 rfl (lv_at hl 1 rfl) ?_
  obtain ⟨y5, hy5, hD⟩ := bd_s hD
  refine r_calli (r_runS (As := [.int p1]) (rest := []) X I (c_X6_isSheet l g q _ (up2 σ 0 5 (0 : Int32)) p1 hy5) ks_X6_isSheet ml_X6_43 ⟨Nat.le_of_ble_eq_true rfl, Nat.le_of_ble_eq_true rfl⟩ ⟨Nat.zero_le _, Nat.zero_le _⟩ rfl rfl hl.1 (Nat.le_of_ble_eq_true rfl) dX6_copy_6) I (fun H locs I => ?_)
  refine lv_if_eq (tgt := 19) hx hb dX6_copy_9 (by decide) (fun hc6 => ?_) (fun hc6 => ?_)
  · have hD := ite_p hc6 hD
    refine lv_iconst (v := -1) hx hb dX6_copy_19 (by decide) ?_
    exact r_iret2 X I hD dX6_copy_20
  · have hD := ite_n hc6 hD
    refine lv_iload_n hx hb dX6_copy_12 rfl (lv_at hl 3 rfl) ?_
    obtain ⟨y10, hy10, hD⟩ := bd_s hD
    refine r_calli (r_runS (As := [.int p3]) (rest := []) X I (c_X6_isSheet l g q _ (up2 σ 0 5 (0 : Int32)) p3 hy10) ks_X6_isSheet ml_X6_43 ⟨Nat.le_of_ble_eq_true rfl, Nat.le_of_ble_eq_true rfl⟩ ⟨Nat.zero_le _, Nat.zero_le _⟩ rfl rfl hl.1 (Nat.le_of_ble_eq_true rfl) dX6_copy_13) I (fun H locs I => ?_)
    refine lv_if_ne (tgt := 21) hx hb dX6_copy_16 (by decide) (fun hc11 => ?_) (fun hc11 => ?_)
    · have hD := ite_n hc11 hD
      refine lv_aload_n hx hb dX6_copy_21 rfl (lv_at hl 0 rfl) ?_
      refine g_YearDeck_sheets X I fl_X6_27 dX6_copy_22 ?_
      refine lv_iload_n hx hb dX6_copy_25 rfl (lv_at hl 1 rfl) ?_
      obtain ⟨hg15, hD⟩ := gd_s hD
      refine r_aald (t0 := 3) X I (by decide) rfl (eCr_13 g q _) hg15 dX6_copy_26 ?_
      refine lv_astore (lv' := [(6, .ref (q (14 + p1.toNatClampNeg))), (0, .ref (q 0)), (1, .int p1), (2, .int p2), (3, .int p3), (4, .int p4), (5, .int p5)]) hx hb dX6_copy_27 hl (by decide) rfl (fun ls hl => ?_)
      refine lv_aload_n hx hb dX6_copy_29 rfl (lv_at hl 1 rfl) ?_
      refine g_YearDeck_sheets X I fl_X6_27 dX6_copy_30 ?_
      refine lv_iload_n hx hb dX6_copy_33 rfl (lv_at hl 4 rfl) ?_
      obtain ⟨hg20, hD⟩ := gd_s hD
      refine r_aald (t0 := 3) X I (by decide) rfl (eCr_13 g q _) hg20 dX6_copy_34 ?_
      refine lv_astore (lv' := [(7, .ref (q (14 + p3.toNatClampNeg))), (6, .ref (q (14 + p1.toNatClampNeg))), (0, .ref (q 0)), (1, .int p1), (2, .int p2), (3, .int p3), (4, .int p4), (5, .int p5)]) hx hb dX6_copy_35 hl (by decide) rfl (fun ls hl => ?_)
      refine lv_aload hx hb dX6_copy_37 (lv_at hl 1 rfl) ?_
      obtain ⟨y23, hy23, hD⟩ := bd_s hD
      refine r_calli (r_runV (As := []) (rest := []) X I (c_X5_hasRow l g q _ (up2 σ 0 5 (0 : Int32)) (14 + p1.toNatClampNeg) (kSh_of hg15) hy23) kv_X5_hasRow ml_X6_196 rfl (kSh_lt (kSh_of hg15)) (eC_Sheet g q _ (kSh_of hg15)) ⟨Nat.le_of_ble_eq_true rfl, Nat.le_of_ble_eq_true rfl⟩ ⟨Nat.zero_le _, Nat.zero_le _⟩ rfl rfl hl.1 (Nat.le_of_ble_eq_true rfl) dX6_copy_39) I (fun H locs I => ?_)
      refine lv_if_eq (tgt := 53) hx hb dX6_copy_42 (by decide) (fun hc24 => ?_) (fun hc24 => ?_)
      · have hD := ite_p hc24 hD
        exact w_X6_copy_53 g q X (up2 σ 0 5 (0 : Int32)) hD _ _ _ I (lv_sub hl [2] rfl)
      · have hD := ite_n hc24 hD
        refine lv_aload hx hb dX6_copy_45 (lv_at hl 0 rfl) ?_
        obtain ⟨y26, hy26, hD⟩ := bd_s hD
        refine r_calli (r_runV (As := []) (rest := []) X I (c_X5_hasRow l g q _ (up2 σ 0 5 (0 : Int32)) (14 + p3.toNatClampNeg) (kSh_of hg20) hy26) kv_X5_hasRow ml_X6_196 rfl (kSh_lt (kSh_of hg20)) (eC_Sheet g q _ (kSh_of hg20)) ⟨Nat.le_of_ble_eq_true rfl, Nat.le_of_ble_eq_true rfl⟩ ⟨Nat.zero_le _, Nat.zero_le _⟩ rfl rfl hl.1 (Nat.le_of_ble_eq_true rfl) dX6_copy_47) I (fun H locs I => ?_)
        refine lv_if_ne (tgt := 59) hx hb dX6_copy_50 (by decide) (fun hc27 => ?_) (fun hc27 => ?_)
        · have hD := ite_n hc27 hD
          refine lv_aload hx hb dX6_copy_59 (lv_at hl 1 rfl) ?_
          refine g_Sheet_lane X I (kSh_of hg15) fl_X6_211 dX6_copy_61 ?_
          refine lv_aload hx hb dX6_copy_64 (lv_at hl 0 rfl) ?_
          refine g_Sheet_lane X I (kSh_of hg20) fl_X6_211 dX6_copy_66 ?_
          refine lv_icmp_eq (tgt := 78) hx hb dX6_copy_69 (by decide) (fun hc32 => ?_) (fun hc32 => ?_)
          · have hD := ite_p hc32 hD
            refine lv_aload hx hb dX6_copy_78 (lv_at hl 1 rfl) ?_
            refine lv_iload_n hx hb dX6_copy_80 rfl (lv_at hl 4 rfl) ?_
            refine lv_iload hx hb dX6_copy_81 (lv_at hl 7 rfl) ?_
            obtain ⟨y36, hy36, hD⟩ := bd_s hD
            refine r_calli (r_runV (As := [.int p2, .int p5]) (rest := []) X I (c_X5_hasCells l g q _ (up2 σ 0 5 (0 : Int32)) (14 + p1.toNatClampNeg) p2 p5 (kSh_of hg15) hy36) kv_X5_hasCells ml_X6_214 rfl (kSh_lt (kSh_of hg15)) (eC_Sheet g q _ (kSh_of hg15)) ⟨Nat.le_of_ble_eq_true rfl, Nat.le_of_ble_eq_true rfl⟩ ⟨Nat.zero_le _, Nat.zero_le _⟩ rfl rfl hl.1 (Nat.le_of_ble_eq_true rfl) dX6_copy_83) I (fun H locs I => ?_)
            refine lv_if_eq (tgt := 101) hx hb dX6_copy_86 (by decide) (fun hc37 => ?_) (fun hc37 => ?_)
            · have hD := ite_p hc37 hD
              exact w_X6_copy_101 g q X (up2 σ 0 5 (0 : Int32)) hD _ _ _ I (lv_sub hl [2] rfl)
            · have hD := ite_n hc37 hD
              refine lv_aload hx hb dX6_copy_89 (lv_at hl 0 rfl) ?_
              refine lv_iload hx hb dX6_copy_91 (lv_at hl 6 rfl) ?_
              refine lv_iload hx hb dX6_copy_93 (lv_at hl 7 rfl) ?_
              obtain ⟨y41, hy41, hD⟩ := bd_s hD
              refine r_calli (r_runV (As := [.int p4, .int p5]) (rest := []) X I (c_X5_hasCells l g q _ (up2 σ 0 5 (0 : Int32)) (14 + p3.toNatClampNeg) p4 p5 (kSh_of hg20) hy41) kv_X5_hasCells ml_X6_214 rfl (kSh_lt (kSh_of hg20)) (eC_Sheet g q _ (kSh_of hg20)) ⟨Nat.le_of_ble_eq_true rfl, Nat.le_of_ble_eq_true rfl⟩ ⟨Nat.zero_le _, Nat.zero_le _⟩ rfl rfl hl.1 (Nat.le_of_ble_eq_true rfl) dX6_copy_95) I (fun H locs I => ?_)
              refine lv_if_ne (tgt := 107) hx hb dX6_copy_98 (by decide) (fun hc42 => ?_) (fun hc42 => ?_)
              · have hD := ite_n hc42 hD
                refine lv_aload hx hb dX6_copy_107 (lv_at hl 1 rfl) ?_
                refine g_Sheet_cells X I (kSh_of hg15) fl_X6_217 dX6_copy_109 ?_
                refine lv_iload_n hx hb dX6_copy_112 rfl (lv_at hl 4 rfl) ?_
                refine lv_aload hx hb dX6_copy_113 (lv_at hl 0 rfl) ?_
                refine g_Sheet_cells X I (kSh_of hg20) fl_X6_217 dX6_copy_115 ?_
                refine lv_iload hx hb dX6_copy_118 (lv_at hl 6 rfl) ?_
                refine lv_iload hx hb dX6_copy_120 (lv_at hl 7 rfl) ?_
                obtain ⟨hg50, hD⟩ := gd_s hD
                refine r_copy X I (kSh_lt4 (kSh_of hg15)) (kSh_lt4 (kSh_of hg20)) (eC_cells g q (kSh_of hg15)) (eC_cells g q (kSh_of hg20)) hg50 (Nat.le_of_ble_eq_true rfl) (Nat.le_of_ble_eq_true rfl) hl.1 dX6_copy_122 (fun H locs I => ?_)
                refine lv_iload hx hb dX6_copy_125 (lv_at hl 7 rfl) ?_
                exact r_iret2 X I hD dX6_copy_127
              · have hD := ite_p hc42 hD
                exact w_X6_copy_101 g q X (up2 σ 0 5 (0 : Int32)) hD _ _ _ I (lv_sub hl [2] rfl)
          · have hD := ite_n hc32 hD
            refine lv_aload_n hx hb dX6_copy_72 rfl (lv_at hl 2 rfl) ?_
            refine lv_iconst (v := 2) hx hb dX6_copy_73 (by decide) ?_
            obtain ⟨y55, hy55, hD⟩ := bd_s hD
            refine r_calli (r_runV (As := [.int (2 : Int32)]) (rest := []) X I (c_X6_failed l g q _ (up2 σ 0 5 (0 : Int32)) (2 : Int32) hy55) kv_X6_failed ml_X6_54 rfl (by decide) (eC_YearDeck g q _) ⟨Nat.le_of_ble_eq_true rfl, Nat.le_of_ble_eq_true rfl⟩ ⟨Nat.zero_le _, Nat.zero_le _⟩ rfl rfl hl.1 (Nat.le_of_ble_eq_true rfl) dX6_copy_74) I (fun H locs I => ?_)
            exact r_iret2 X I hD dX6_copy_77
        · have hD := ite_p hc27 hD
          exact w_X6_copy_53 g q X (up2 σ 0 5 (0 : Int32)) hD _ _ _ I (lv_sub hl [2] rfl)
    · have hD := ite_p hc11 hD
      refine lv_iconst (v := -1) hx hb dX6_copy_19 (by decide) ?_
      exact r_iret2 X I hD dX6_copy_20

/-! YearDeck.beginBody(I)V -/
def D_X6_beginBody (σ : St) (p1 : Int32) : Option St := some (up2 σ 0 4 (((31 : Int32) * (σ 0 4)) + p1))
set_option maxRecDepth 100000 in
set_option maxHeartbeats 4000000 in
theorem c_X6_beginBody (l : Launch) (g : Gh) (q : Nat → Nat) (sz : Nat) (σ : St) (p1 : Int32) {rr : St} (hD : D_X6_beginBody σ p1 = some rr) : Met l yX6_beginBody (wU yX6_beginBody cX6_beginBody 2 none) (rmD 0) (PQ g (eC g q) q 23 σ sz [.ref (q 0), .int p1]) (QV g (eC g q) q 23 rr sz) 0 0 (AQ q 23 sz) := by
  refine met_of (Qc := QV g (eC g q) q 23 rr) (by decide) (Nat.le_of_ble_eq_true rfl) ?_
  intro p e s m below meth c ls X I hl
  have hx := X.1
  have hb := X.2.1
  have hl : lv_has ls 2 [(0, .ref (q 0)), (1, .int p1)] := hl
  unfold D_X6_beginBody at hD
  refine lv_aload_n hx hb dX6_beginBody_0 rfl (lv_at hl 0 rfl) ?_
  refine lv_bipush (v := 31) hx hb dX6_beginBody_1 (by decide) ?_
  refine lv_aload_n hx hb dX6_beginBody_3 rfl (lv_at hl 0 rfl) ?_
  refine g_YearDeck_traced X I fl_X6_35 dX6_beginBody_4 ?_
  refine lv_imul hx hb dX6_beginBody_7 ?_
  refine lv_iload_n hx hb dX6_beginBody_8 rfl (lv_at hl 1 rfl) ?_
  refine lv_iadd hx hb dX6_beginBody_9 ?_
  refine p_YearDeck_traced X I fl_X6_35 dX6_beginBody_10 (fun H locs I => ?_)
  exact r_vret X I hD dX6_beginBody_13

/-! YearDeck.toldAsRider(LYearDeck$Rider;)I -/
def D_X6_toldAsRider (σ : St) (p1 : Nat) : Option (Int32 × St) := (D_X6_beginBody σ (1 : Int32)).bind fun y3 => some (y3 p1 3, y3)
set_option maxRecDepth 100000 in
set_option maxHeartbeats 4000000 in
theorem c_X6_toldAsRider (l : Launch) (g : Gh) (q : Nat → Nat) (sz : Nat) (σ : St) (p1 : Nat) (kp1 : kRi p1) {rr : (Int32 × St)} (hD : D_X6_toldAsRider σ p1 = some rr) : Met l yX6_toldAsRider (wU yX6_toldAsRider cX6_toldAsRider 2 (some .int)) (rmD 1) (PQ g (eC g q) q 23 σ sz [.ref (q 0), .ref (q p1)]) (QI g (eC g q) q 23 rr.1 rr.2 sz) 0 0 (AQ q 23 sz) := by
  refine met_of (Qc := QI g (eC g q) q 23 rr.1 rr.2) (by decide) (Nat.le_of_ble_eq_true rfl) ?_
  intro p e s m below meth c ls X I hl
  have hx := X.1
  have hb := X.2.1
  have hl : lv_has ls 2 [(0, .ref (q 0)), (1, .ref (q p1))] := hl
  unfold D_X6_toldAsRider at hD
  refine lv_aload_n hx hb dX6_toldAsRider_0 rfl (lv_at hl 0 rfl) ?_
  refine lv_iconst (v := 1) hx hb dX6_toldAsRider_1 (by decide) ?_
  obtain ⟨y3, hy3, hD⟩ := bd_s hD
  refine r_callv (r_runV (As := [.int (1 : Int32)]) (rest := []) X I (c_X6_beginBody l g q _ σ (1 : Int32) hy3) kv_X6_beginBody ml_X6_236 rfl (by decide) (eC_YearDeck g q _) ⟨Nat.le_of_ble_eq_true rfl, Nat.le_of_ble_eq_true rfl⟩ ⟨Nat.zero_le _, Nat.zero_le _⟩ rfl rfl hl.1 (Nat.le_of_ble_eq_true rfl) dX6_toldAsRider_2) I (fun H locs I => ?_)
  refine lv_aload_n hx hb dX6_toldAsRider_5 rfl (lv_at hl 1 rfl) ?_
  refine g_Rider_years X I kp1 fl_X6_90 dX6_toldAsRider_6 ?_
  exact r_iret2 X I hD dX6_toldAsRider_9

/-! YearDeck.toldAsLad(LYearDeck$Rider;)I -/
def D_X6_toldAsLad (σ : St) (p1 : Nat) : Option (Int32 × St) := (D_X6_beginBody σ (2 : Int32)).bind fun y3 => (D_X6_toldAsRider y3 p1).bind fun y6 => some (y6.1 + (100 : Int32), y6.2)
set_option maxRecDepth 100000 in
set_option maxHeartbeats 4000000 in
theorem c_X6_toldAsLad (l : Launch) (g : Gh) (q : Nat → Nat) (sz : Nat) (σ : St) (p1 : Nat) (kp1 : kRi p1) {rr : (Int32 × St)} (hD : D_X6_toldAsLad σ p1 = some rr) : Met l yX6_toldAsLad (wU yX6_toldAsLad cX6_toldAsLad 2 (some .int)) (rmD 2) (PQ g (eC g q) q 23 σ sz [.ref (q 0), .ref (q p1)]) (QI g (eC g q) q 23 rr.1 rr.2 sz) 0 0 (AQ q 23 sz) := by
  refine met_of (Qc := QI g (eC g q) q 23 rr.1 rr.2) (by decide) (Nat.le_of_ble_eq_true rfl) ?_
  intro p e s m below meth c ls X I hl
  have hx := X.1
  have hb := X.2.1
  have hl : lv_has ls 2 [(0, .ref (q 0)), (1, .ref (q p1))] := hl
  unfold D_X6_toldAsLad at hD
  refine lv_aload_n hx hb dX6_toldAsLad_0 rfl (lv_at hl 0 rfl) ?_
  refine lv_iconst (v := 2) hx hb dX6_toldAsLad_1 (by decide) ?_
  obtain ⟨y3, hy3, hD⟩ := bd_s hD
  refine r_callv (r_runV (As := [.int (2 : Int32)]) (rest := []) X I (c_X6_beginBody l g q _ σ (2 : Int32) hy3) kv_X6_beginBody ml_X6_236 rfl (by decide) (eC_YearDeck g q _) ⟨Nat.le_of_ble_eq_true rfl, Nat.le_of_ble_eq_true rfl⟩ ⟨Nat.zero_le _, Nat.zero_le _⟩ rfl rfl hl.1 (Nat.le_of_ble_eq_true rfl) dX6_toldAsLad_2) I (fun H locs I => ?_)
  refine lv_aload_n hx hb dX6_toldAsLad_5 rfl (lv_at hl 0 rfl) ?_
  refine lv_aload_n hx hb dX6_toldAsLad_6 rfl (lv_at hl 1 rfl) ?_
  obtain ⟨y6, hy6, hD⟩ := bd_s hD
  refine r_calli (r_runV (As := [.ref (q p1)]) (rest := []) X I (c_X6_toldAsRider l g q _ y3 p1 kp1 hy6) kv_X6_toldAsRider ml_X6_226 rfl (by decide) (eC_YearDeck g q _) ⟨Nat.le_of_ble_eq_true rfl, Nat.le_of_ble_eq_true rfl⟩ ⟨Nat.zero_le _, Nat.zero_le _⟩ rfl rfl hl.1 (Nat.le_of_ble_eq_true rfl) dX6_toldAsLad_7) I (fun H locs I => ?_)
  refine lv_bipush (v := 100) hx hb dX6_toldAsLad_10 (by decide) ?_
  refine lv_iadd hx hb dX6_toldAsLad_12 ?_
  exact r_iret2 X I hD dX6_toldAsLad_13

/-! YearDeck.toldAsElder(LYearDeck$Rider;)I -/
def D_X6_toldAsElder (σ : St) (p1 : Nat) : Option (Int32 × St) := (D_X6_beginBody σ (3 : Int32)).bind fun y3 => (D_X6_toldAsLad y3 p1).bind fun y6 => (D_X6_toldAsRider y6.2 p1).bind fun y9 => some (y6.1 + y9.1, y9.2)
set_option maxRecDepth 100000 in
set_option maxHeartbeats 4000000 in
theorem c_X6_toldAsElder (l : Launch) (g : Gh) (q : Nat → Nat) (sz : Nat) (σ : St) (p1 : Nat) (kp1 : kRi p1) {rr : (Int32 × St)} (hD : D_X6_toldAsElder σ p1 = some rr) : Met l yX6_toldAsElder (wU yX6_toldAsElder cX6_toldAsElder 2 (some .int)) (rmD 3) (PQ g (eC g q) q 23 σ sz [.ref (q 0), .ref (q p1)]) (QI g (eC g q) q 23 rr.1 rr.2 sz) 0 0 (AQ q 23 sz) := by
  refine met_of (Qc := QI g (eC g q) q 23 rr.1 rr.2) (by decide) (Nat.le_of_ble_eq_true rfl) ?_
  intro p e s m below meth c ls X I hl
  have hx := X.1
  have hb := X.2.1
  have hl : lv_has ls 2 [(0, .ref (q 0)), (1, .ref (q p1))] := hl
  unfold D_X6_toldAsElder at hD
  refine lv_aload_n hx hb dX6_toldAsElder_0 rfl (lv_at hl 0 rfl) ?_
  refine lv_iconst (v := 3) hx hb dX6_toldAsElder_1 (by decide) ?_
  obtain ⟨y3, hy3, hD⟩ := bd_s hD
  refine r_callv (r_runV (As := [.int (3 : Int32)]) (rest := []) X I (c_X6_beginBody l g q _ σ (3 : Int32) hy3) kv_X6_beginBody ml_X6_236 rfl (by decide) (eC_YearDeck g q _) ⟨Nat.le_of_ble_eq_true rfl, Nat.le_of_ble_eq_true rfl⟩ ⟨Nat.zero_le _, Nat.zero_le _⟩ rfl rfl hl.1 (Nat.le_of_ble_eq_true rfl) dX6_toldAsElder_2) I (fun H locs I => ?_)
  refine lv_aload_n hx hb dX6_toldAsElder_5 rfl (lv_at hl 0 rfl) ?_
  refine lv_aload_n hx hb dX6_toldAsElder_6 rfl (lv_at hl 1 rfl) ?_
  obtain ⟨y6, hy6, hD⟩ := bd_s hD
  refine r_calli (r_runV (As := [.ref (q p1)]) (rest := []) X I (c_X6_toldAsLad l g q _ y3 p1 kp1 hy6) kv_X6_toldAsLad ml_X6_230 rfl (by decide) (eC_YearDeck g q _) ⟨Nat.le_of_ble_eq_true rfl, Nat.le_of_ble_eq_true rfl⟩ ⟨Nat.zero_le _, Nat.zero_le _⟩ rfl rfl hl.1 (Nat.le_of_ble_eq_true rfl) dX6_toldAsElder_7) I (fun H locs I => ?_)
  refine lv_aload_n hx hb dX6_toldAsElder_10 rfl (lv_at hl 0 rfl) ?_
  refine lv_aload_n hx hb dX6_toldAsElder_11 rfl (lv_at hl 1 rfl) ?_
  obtain ⟨y9, hy9, hD⟩ := bd_s hD
  refine r_calli (r_runV (As := [.ref (q p1)]) (rest := [.int y6.1]) X I (c_X6_toldAsRider l g q _ y6.2 p1 kp1 hy9) kv_X6_toldAsRider ml_X6_226 rfl (by decide) (eC_YearDeck g q _) ⟨Nat.le_of_ble_eq_true rfl, Nat.le_of_ble_eq_true rfl⟩ ⟨Nat.zero_le _, Nat.zero_le _⟩ rfl rfl hl.1 (Nat.le_of_ble_eq_true rfl) dX6_toldAsElder_12) I (fun H locs I => ?_)
  refine lv_iadd hx hb dX6_toldAsElder_15 ?_
  exact r_iret2 X I hD dX6_toldAsElder_16

/-! YearDeck.tell(I)I -/
def D_X6_tell (σ : St) (p1 : Int32) : Option (Int32 × St) := (D_X2_hasRider σ p1).bind fun y4 => if y4 = 0 then some ((-1 : Int32), σ) else gd (inb p1 4) (if (σ (5 + p1.toNatClampNeg) 0) = (0 : Int32) then (D_X6_toldAsRider σ (5 + p1.toNatClampNeg)).bind fun y18 => some (y18.1, y18.2) else if (σ (5 + p1.toNatClampNeg) 0) = (1 : Int32) then (D_X6_toldAsLad σ (5 + p1.toNatClampNeg)).bind fun y23 => some (y23.1, y23.2) else (D_X6_toldAsElder σ (5 + p1.toNatClampNeg)).bind fun y27 => some (y27.1, y27.2))
set_option maxRecDepth 100000 in
set_option maxHeartbeats 4000000 in
theorem c_X6_tell (l : Launch) (g : Gh) (q : Nat → Nat) (sz : Nat) (σ : St) (p1 : Int32) {rr : (Int32 × St)} (hD : D_X6_tell σ p1 = some rr) : Met l yX6_tell (wU yX6_tell cX6_tell 3 (some .int)) (rmD 4) (PQ g (eC g q) q 23 σ sz [.ref (q 0), .int p1]) (QI g (eC g q) q 23 rr.1 rr.2 sz) 0 0 (AQ q 23 sz) := by
  refine met_of (Qc := QI g (eC g q) q 23 rr.1 rr.2) (by decide) (Nat.le_of_ble_eq_true rfl) ?_
  intro p e s m below meth c ls X I hl
  have hx := X.1
  have hb := X.2.1
  have hl : lv_has ls 3 [(0, .ref (q 0)), (1, .int p1)] := hl
  unfold D_X6_tell at hD
  refine lv_aload_n hx hb dX6_tell_0 rfl (lv_at hl 0 rfl) ?_
  refine g_YearDeck_trip X I fl_X6_12 dX6_tell_1 ?_
  refine lv_iload_n hx hb dX6_tell_4 rfl (lv_at hl 1 rfl) ?_
  obtain ⟨y4, hy4, hD⟩ := bd_s hD
  refine r_calli (r_runV (As := [.int p1]) (rest := []) X I (c_X2_hasRider l g q _ σ p1 hy4) kv_X2_hasRider ml_X6_72 rfl (by decide) (eC_Ride g q _) ⟨Nat.le_of_ble_eq_true rfl, Nat.le_of_ble_eq_true rfl⟩ ⟨Nat.zero_le _, Nat.zero_le _⟩ rfl rfl hl.1 (Nat.le_of_ble_eq_true rfl) dX6_tell_5) I (fun H locs I => ?_)
  refine lv_if_ne (tgt := 13) hx hb dX6_tell_8 (by decide) (fun hc5 => ?_) (fun hc5 => ?_)
  · have hD := ite_n hc5 hD
    refine lv_aload_n hx hb dX6_tell_13 rfl (lv_at hl 0 rfl) ?_
    refine g_YearDeck_trip X I fl_X6_12 dX6_tell_14 ?_
    refine g_Ride_riders X I fl_X6_75 dX6_tell_17 ?_
    refine lv_iload_n hx hb dX6_tell_20 rfl (lv_at hl 1 rfl) ?_
    obtain ⟨hg10, hD⟩ := gd_s hD
    refine r_aald (t0 := 2) X I (by decide) rfl (eCr_3 g q _) hg10 dX6_tell_21 ?_
    refine lv_astore_n (lv' := [(2, .ref (q (5 + p1.toNatClampNeg))), (0, .ref (q 0)), (1, .int p1)]) hx hb dX6_tell_22 rfl hl (by decide) rfl (fun ls hl => ?_)
    refine lv_aload_n hx hb dX6_tell_23 rfl (lv_at hl 0 rfl) ?_
    refine g_Rider_kind X I (kRi_of hg10) fl_X6_79 dX6_tell_24 ?_
    by_cases hc15 : (σ (5 + p1.toNatClampNeg) 0) = (0 : Int32)
    · have hD := ite_p hc15 hD
      refine lv_lookup (off := 25) (tgt := 52) hx hb dX6_tell_27 (by decide) (by rw [hc15]; rfl) (by decide) ?_
      refine lv_aload_n hx hb dX6_tell_52 rfl (lv_at hl 1 rfl) ?_
      refine lv_aload_n hx hb dX6_tell_53 rfl (lv_at hl 0 rfl) ?_
      obtain ⟨y18, hy18, hD⟩ := bd_s hD
      refine r_calli (r_runV (As := [.ref (q (5 + p1.toNatClampNeg))]) (rest := []) X I (c_X6_toldAsRider l g q _ σ (5 + p1.toNatClampNeg) (kRi_of hg10) hy18) kv_X6_toldAsRider ml_X6_226 rfl (by decide) (eC_YearDeck g q _) ⟨Nat.le_of_ble_eq_true rfl, Nat.le_of_ble_eq_true rfl⟩ ⟨Nat.zero_le _, Nat.zero_le _⟩ rfl rfl hl.1 (Nat.le_of_ble_eq_true rfl) dX6_tell_54) I (fun H locs I => ?_)
      exact r_iret2 X I hD dX6_tell_57
    · have hD := ite_n hc15 hD
      by_cases hc20 : (σ (5 + p1.toNatClampNeg) 0) = (1 : Int32)
      · have hD := ite_p hc20 hD
        refine lv_lookup (off := 31) (tgt := 58) hx hb dX6_tell_27 (by decide) (by rw [hc20]; rfl) (by decide) ?_
        refine lv_aload_n hx hb dX6_tell_58 rfl (lv_at hl 1 rfl) ?_
        refine lv_aload_n hx hb dX6_tell_59 rfl (lv_at hl 0 rfl) ?_
        obtain ⟨y23, hy23, hD⟩ := bd_s hD
        refine r_calli (r_runV (As := [.ref (q (5 + p1.toNatClampNeg))]) (rest := []) X I (c_X6_toldAsLad l g q _ σ (5 + p1.toNatClampNeg) (kRi_of hg10) hy23) kv_X6_toldAsLad ml_X6_230 rfl (by decide) (eC_YearDeck g q _) ⟨Nat.le_of_ble_eq_true rfl, Nat.le_of_ble_eq_true rfl⟩ ⟨Nat.zero_le _, Nat.zero_le _⟩ rfl rfl hl.1 (Nat.le_of_ble_eq_true rfl) dX6_tell_60) I (fun H locs I => ?_)
        exact r_iret2 X I hD dX6_tell_63
      · have hD := ite_n hc20 hD
        refine lv_lookup (off := 37) (tgt := 64) hx hb dX6_tell_27 (by decide) (by refine (lv_osw hc15 (by decide)).trans ?_; refine (lv_osw hc20 (by decide)).trans ?_; rfl) (by decide) ?_
        refine lv_aload_n hx hb dX6_tell_64 rfl (lv_at hl 1 rfl) ?_
        refine lv_aload_n hx hb dX6_tell_65 rfl (lv_at hl 0 rfl) ?_
        obtain ⟨y27, hy27, hD⟩ := bd_s hD
        refine r_calli (r_runV (As := [.ref (q (5 + p1.toNatClampNeg))]) (rest := []) X I (c_X6_toldAsElder l g q _ σ (5 + p1.toNatClampNeg) (kRi_of hg10) hy27) kv_X6_toldAsElder ml_X6_233 rfl (by decide) (eC_YearDeck g q _) ⟨Nat.le_of_ble_eq_true rfl, Nat.le_of_ble_eq_true rfl⟩ ⟨Nat.zero_le _, Nat.zero_le _⟩ rfl rfl hl.1 (Nat.le_of_ble_eq_true rfl) dX6_tell_66) I (fun H locs I => ?_)
        exact r_iret2 X I hD dX6_tell_69
  · have hD := ite_p hc5 hD
    refine lv_iconst (v := -1) hx hb dX6_tell_11 (by decide) ?_
    exact r_iret2 X I hD dX6_tell_12

/-! YearDeck.ring(I)I -/
def D_X6_ring (σ : St) (p1 : Int32) : Option (Int32 × St) := (D_X2_hasRider σ p1).bind fun y4 => if y4 = 0 then some ((-1 : Int32), σ) else gd (inb p1 4) (if (σ (5 + p1.toNatClampNeg) 0) = (2 : Int32) then (D_X6_beginBody σ (5 : Int32)).bind fun y21 => some ((60 : Int32), y21) else (D_X6_beginBody σ (4 : Int32)).bind fun y16 => some (p1, y16))
set_option maxRecDepth 100000 in
set_option maxHeartbeats 4000000 in
theorem c_X6_ring (l : Launch) (g : Gh) (q : Nat → Nat) (sz : Nat) (σ : St) (p1 : Int32) {rr : (Int32 × St)} (hD : D_X6_ring σ p1 = some rr) : Met l yX6_ring (wU yX6_ring cX6_ring 2 (some .int)) (rmD 1) (PQ g (eC g q) q 23 σ sz [.ref (q 0), .int p1]) (QI g (eC g q) q 23 rr.1 rr.2 sz) 0 0 (AQ q 23 sz) := by
  refine met_of (Qc := QI g (eC g q) q 23 rr.1 rr.2) (by decide) (Nat.le_of_ble_eq_true rfl) ?_
  intro p e s m below meth c ls X I hl
  have hx := X.1
  have hb := X.2.1
  have hl : lv_has ls 2 [(0, .ref (q 0)), (1, .int p1)] := hl
  unfold D_X6_ring at hD
  refine lv_aload_n hx hb dX6_ring_0 rfl (lv_at hl 0 rfl) ?_
  refine g_YearDeck_trip X I fl_X6_12 dX6_ring_1 ?_
  refine lv_iload_n hx hb dX6_ring_4 rfl (lv_at hl 1 rfl) ?_
  obtain ⟨y4, hy4, hD⟩ := bd_s hD
  refine r_calli (r_runV (As := [.int p1]) (rest := []) X I (c_X2_hasRider l g q _ σ p1 hy4) kv_X2_hasRider ml_X6_72 rfl (by decide) (eC_Ride g q _) ⟨Nat.le_of_ble_eq_true rfl, Nat.le_of_ble_eq_true rfl⟩ ⟨Nat.zero_le _, Nat.zero_le _⟩ rfl rfl hl.1 (Nat.le_of_ble_eq_true rfl) dX6_ring_5) I (fun H locs I => ?_)
  refine lv_if_ne (tgt := 13) hx hb dX6_ring_8 (by decide) (fun hc5 => ?_) (fun hc5 => ?_)
  · have hD := ite_n hc5 hD
    refine lv_aload_n hx hb dX6_ring_13 rfl (lv_at hl 0 rfl) ?_
    refine g_YearDeck_trip X I fl_X6_12 dX6_ring_14 ?_
    refine g_Ride_riders X I fl_X6_75 dX6_ring_17 ?_
    refine lv_iload_n hx hb dX6_ring_20 rfl (lv_at hl 1 rfl) ?_
    obtain ⟨hg10, hD⟩ := gd_s hD
    refine r_aald (t0 := 2) X I (by decide) rfl (eCr_3 g q _) hg10 dX6_ring_21 ?_
    refine g_Rider_kind X I (kRi_of hg10) fl_X6_79 dX6_ring_22 ?_
    refine lv_iconst (v := 2) hx hb dX6_ring_25 (by decide) ?_
    refine lv_icmp_ne (tgt := 37) hx hb dX6_ring_26 (by decide) (fun hc13 => ?_) (fun hc13 => ?_)
    · have hD := ite_n hc13 hD
      refine lv_aload_n hx hb dX6_ring_37 rfl (lv_at hl 0 rfl) ?_
      refine lv_iconst (v := 4) hx hb dX6_ring_38 (by decide) ?_
      obtain ⟨y16, hy16, hD⟩ := bd_s hD
      refine r_callv (r_runV (As := [.int (4 : Int32)]) (rest := []) X I (c_X6_beginBody l g q _ σ (4 : Int32) hy16) kv_X6_beginBody ml_X6_236 rfl (by decide) (eC_YearDeck g q _) ⟨Nat.le_of_ble_eq_true rfl, Nat.le_of_ble_eq_true rfl⟩ ⟨Nat.zero_le _, Nat.zero_le _⟩ rfl rfl hl.1 (Nat.le_of_ble_eq_true rfl) dX6_ring_39) I (fun H locs I => ?_)
      refine lv_iload_n hx hb dX6_ring_42 rfl (lv_at hl 1 rfl) ?_
      exact r_iret2 X I hD dX6_ring_43
    · have hD := ite_p hc13 hD
      refine lv_aload_n hx hb dX6_ring_29 rfl (lv_at hl 0 rfl) ?_
      refine lv_iconst (v := 5) hx hb dX6_ring_30 (by decide) ?_
      obtain ⟨y21, hy21, hD⟩ := bd_s hD
      refine r_callv (r_runV (As := [.int (5 : Int32)]) (rest := []) X I (c_X6_beginBody l g q _ σ (5 : Int32) hy21) kv_X6_beginBody ml_X6_236 rfl (by decide) (eC_YearDeck g q _) ⟨Nat.le_of_ble_eq_true rfl, Nat.le_of_ble_eq_true rfl⟩ ⟨Nat.zero_le _, Nat.zero_le _⟩ rfl rfl hl.1 (Nat.le_of_ble_eq_true rfl) dX6_ring_31) I (fun H locs I => ?_)
      refine lv_bipush (v := 60) hx hb dX6_ring_34 (by decide) ?_
      exact r_iret2 X I hD dX6_ring_36
  · have hD := ite_p hc5 hD
    refine lv_iconst (v := -1) hx hb dX6_ring_11 (by decide) ?_
    exact r_iret2 X I hD dX6_ring_12

/-! YearDeck.as(II)I -/
def D_X6_as (σ : St) (p1 : Int32) (p2 : Int32) : Option (Int32 × St) := (D_X2_hasRider (up2 σ 0 5 (0 : Int32)) p1).bind fun y7 => if y7 = 0 then some ((-1 : Int32), up2 σ 0 5 (0 : Int32)) else (D_X6_within (up2 σ 0 5 (0 : Int32)) p2 (2 : Int32)).bind fun y11 => if y11 = 0 then some ((-2 : Int32), up2 σ 0 5 (0 : Int32)) else gd (inb p1 4) (if ((up2 σ 0 5 (0 : Int32)) (5 + p1.toNatClampNeg) 0) < p2 then (D_X6_failed (up2 σ 0 5 (0 : Int32)) (2 : Int32)).bind fun y23 => some (y23.1, y23.2) else some ((1 : Int32), up2 σ 0 5 (0 : Int32)))
set_option maxRecDepth 100000 in
set_option maxHeartbeats 4000000 in
theorem c_X6_as (l : Launch) (g : Gh) (q : Nat → Nat) (sz : Nat) (σ : St) (p1 : Int32) (p2 : Int32) {rr : (Int32 × St)} (hD : D_X6_as σ p1 p2 = some rr) : Met l yX6_as (wU yX6_as cX6_as 3 (some .int)) (rmD 1) (PQ g (eC g q) q 23 σ sz [.ref (q 0), .int p1, .int p2]) (QI g (eC g q) q 23 rr.1 rr.2 sz) 0 0 (AQ q 23 sz) := by
  refine met_of (Qc := QI g (eC g q) q 23 rr.1 rr.2) (by decide) (Nat.le_of_ble_eq_true rfl) ?_
  intro p e s m below meth c ls X I hl
  have hx := X.1
  have hb := X.2.1
  have hl : lv_has ls 3 [(0, .ref (q 0)), (1, .int p1), (2, .int p2)] := hl
  unfold D_X6_as at hD
  refine lv_aload_n hx hb dX6_as_0 rfl (lv_at hl 0 rfl) ?_
  refine lv_iconst (v := 0) hx hb dX6_as_1 (by decide) ?_
  refine p_YearDeck_lastFault X I fl_X6_39 dX6_as_2 (fun H locs I => ?_)
  refine lv_aload_n hx hb dX6_as_5 rfl (lv_at hl 0 rfl) ?_
  refine g_YearDeck_trip X I fl_X6_12 dX6_as_6 ?_
  refine lv_iload_n hx hb dX6_as_9 rfl (lv_at hl 1 rfl) ?_
  obtain ⟨y7, hy7, hD⟩ := bd_s hD
  refine r_calli (r_runV (As := [.int p1]) (rest := []) X I (c_X2_hasRider l g q _ (up2 σ 0 5 (0 : Int32)) p1 hy7) kv_X2_hasRider ml_X6_72 rfl (by decide) (eC_Ride g q _) ⟨Nat.le_of_ble_eq_true rfl, Nat.le_of_ble_eq_true rfl⟩ ⟨Nat.zero_le _, Nat.zero_le _⟩ rfl rfl hl.1 (Nat.le_of_ble_eq_true rfl) dX6_as_10) I (fun H locs I => ?_)
  refine lv_if_ne (tgt := 18) hx hb dX6_as_13 (by decide) (fun hc8 => ?_) (fun hc8 => ?_)
  · have hD := ite_n hc8 hD
    refine lv_iload_n hx hb dX6_as_18 rfl (lv_at hl 2 rfl) ?_
    refine lv_iconst (v := 2) hx hb dX6_as_19 (by decide) ?_
    obtain ⟨y11, hy11, hD⟩ := bd_s hD
    refine r_calli (r_runS (As := [.int p2, .int (2 : Int32)]) (rest := []) X I (c_X6_within l g q _ (up2 σ 0 5 (0 : Int32)) p2 (2 : Int32) hy11) ks_X6_within ml_X6_106 ⟨Nat.le_of_ble_eq_true rfl, Nat.le_of_ble_eq_true rfl⟩ ⟨Nat.zero_le _, Nat.zero_le _⟩ rfl rfl hl.1 (Nat.le_of_ble_eq_true rfl) dX6_as_20) I (fun H locs I => ?_)
    refine lv_if_ne (tgt := 29) hx hb dX6_as_23 (by decide) (fun hc12 => ?_) (fun hc12 => ?_)
    · have hD := ite_n hc12 hD
      refine lv_aload_n hx hb dX6_as_29 rfl (lv_at hl 0 rfl) ?_
      refine g_YearDeck_trip X I fl_X6_12 dX6_as_30 ?_
      refine g_Ride_riders X I fl_X6_75 dX6_as_33 ?_
      refine lv_iload_n hx hb dX6_as_36 rfl (lv_at hl 1 rfl) ?_
      obtain ⟨hg17, hD⟩ := gd_s hD
      refine r_aald (t0 := 2) X I (by decide) rfl (eCr_3 g q _) hg17 dX6_as_37 ?_
      refine g_Rider_kind X I (kRi_of hg17) fl_X6_79 dX6_as_38 ?_
      refine lv_iload_n hx hb dX6_as_41 rfl (lv_at hl 2 rfl) ?_
      refine lv_icmp_lt (tgt := 49) hx hb dX6_as_42 (by decide) (fun hc20 => ?_) (fun hc20 => ?_)
      · have hD := ite_p hc20 hD
        refine lv_aload_n hx hb dX6_as_49 rfl (lv_at hl 0 rfl) ?_
        refine lv_iconst (v := 2) hx hb dX6_as_50 (by decide) ?_
        obtain ⟨y23, hy23, hD⟩ := bd_s hD
        refine r_calli (r_runV (As := [.int (2 : Int32)]) (rest := []) X I (c_X6_failed l g q _ (up2 σ 0 5 (0 : Int32)) (2 : Int32) hy23) kv_X6_failed ml_X6_54 rfl (by decide) (eC_YearDeck g q _) ⟨Nat.le_of_ble_eq_true rfl, Nat.le_of_ble_eq_true rfl⟩ ⟨Nat.zero_le _, Nat.zero_le _⟩ rfl rfl hl.1 (Nat.le_of_ble_eq_true rfl) dX6_as_51) I (fun H locs I => ?_)
        exact r_iret2 X I hD dX6_as_54
      · have hD := ite_n hc20 hD
        refine lv_iconst (v := 1) hx hb dX6_as_45 (by decide) ?_
        refine lv_goto (tgt := 54) hx hb dX6_as_46 (by decide) ?_
        exact r_iret2 X I hD dX6_as_54
    · have hD := ite_p hc12 hD
      refine lv_bipush (v := -2) hx hb dX6_as_26 (by decide) ?_
      exact r_iret2 X I hD dX6_as_28
  · have hD := ite_p hc8 hD
    refine lv_iconst (v := -1) hx hb dX6_as_16 (by decide) ?_
    exact r_iret2 X I hD dX6_as_17

/-! YearDeck.trace()I -/
def D_X6_trace (σ : St) : Option Int32 := some (σ 0 4)
set_option maxRecDepth 100000 in
set_option maxHeartbeats 4000000 in
theorem c_X6_trace (l : Launch) (g : Gh) (q : Nat → Nat) (sz : Nat) (σ : St) {rr : Int32} (hD : D_X6_trace σ = some rr) : Met l yX6_trace (wU yX6_trace cX6_trace 1 (some .int)) (rmD 0) (PQ g (eC g q) q 23 σ sz [.ref (q 0)]) (QI g (eC g q) q 23 rr σ sz) 0 0 (AQ q 23 sz) := by
  refine met_of (Qc := QI g (eC g q) q 23 rr σ) (by decide) (Nat.le_of_ble_eq_true rfl) ?_
  intro p e s m below meth c ls X I hl
  have hx := X.1
  have hb := X.2.1
  have hl : lv_has ls 1 [(0, .ref (q 0))] := hl
  unfold D_X6_trace at hD
  refine lv_aload_n hx hb dX6_trace_0 rfl (lv_at hl 0 rfl) ?_
  refine g_YearDeck_traced X I fl_X6_35 dX6_trace_1 ?_
  exact r_iret X I hD dX6_trace_4

/-! YearDeck.fault()I -/
def D_X6_fault (σ : St) : Option Int32 := some (σ 0 5)
set_option maxRecDepth 100000 in
set_option maxHeartbeats 4000000 in
theorem c_X6_fault (l : Launch) (g : Gh) (q : Nat → Nat) (sz : Nat) (σ : St) {rr : Int32} (hD : D_X6_fault σ = some rr) : Met l yX6_fault (wU yX6_fault cX6_fault 1 (some .int)) (rmD 0) (PQ g (eC g q) q 23 σ sz [.ref (q 0)]) (QI g (eC g q) q 23 rr σ sz) 0 0 (AQ q 23 sz) := by
  refine met_of (Qc := QI g (eC g q) q 23 rr σ) (by decide) (Nat.le_of_ble_eq_true rfl) ?_
  intro p e s m below meth c ls X I hl
  have hx := X.1
  have hb := X.2.1
  have hl : lv_has ls 1 [(0, .ref (q 0))] := hl
  unfold D_X6_fault at hD
  refine lv_aload_n hx hb dX6_fault_0 rfl (lv_at hl 0 rfl) ?_
  refine g_YearDeck_lastFault X I fl_X6_39 dX6_fault_1 ?_
  exact r_iret X I hD dX6_fault_4

/-! YearDeck.many(I)I -/
def D_X6_many (σ : St) (p1 : Int32) : Option Int32 := if p1 = (0 : Int32) then some (σ 1 5) else if p1 = (1 : Int32) then some (σ 1 4) else if p1 = (2 : Int32) then some (σ 1 3) else if p1 = (3 : Int32) then some (σ 9 3) else some (-2 : Int32)
set_option maxRecDepth 100000 in
set_option maxHeartbeats 4000000 in
theorem c_X6_many (l : Launch) (g : Gh) (q : Nat → Nat) (sz : Nat) (σ : St) (p1 : Int32) {rr : Int32} (hD : D_X6_many σ p1 = some rr) : Met l yX6_many (wU yX6_many cX6_many 2 (some .int)) (rmD 0) (PQ g (eC g q) q 23 σ sz [.ref (q 0), .int p1]) (QI g (eC g q) q 23 rr σ sz) 0 0 (AQ q 23 sz) := by
  refine met_of (Qc := QI g (eC g q) q 23 rr σ) (by decide) (Nat.le_of_ble_eq_true rfl) ?_
  intro p e s m below meth c ls X I hl
  have hx := X.1
  have hb := X.2.1
  have hl : lv_has ls 2 [(0, .ref (q 0)), (1, .int p1)] := hl
  unfold D_X6_many at hD
  refine lv_iload_n hx hb dX6_many_0 rfl (lv_at hl 1 rfl) ?_
  by_cases hc3 : p1 = (0 : Int32)
  · have hD := ite_p hc3 hD
    refine lv_tableIn (off := 31) (tgt := 32) hx hb dX6_many_1 (by rw [hc3]; decide) (by rw [hc3]; decide) (by rw [hc3]; rfl) (by decide) ?_
    refine lv_aload_n hx hb dX6_many_32 rfl (lv_at hl 0 rfl) ?_
    refine g_YearDeck_trip X I fl_X6_12 dX6_many_33 ?_
    refine g_Ride_count X I fl_X6_71 dX6_many_36 ?_
    exact r_iret X I hD dX6_many_39
  · have hD := ite_n hc3 hD
    by_cases hc8 : p1 = (1 : Int32)
    · have hD := ite_p hc8 hD
      refine lv_tableIn (off := 39) (tgt := 40) hx hb dX6_many_1 (by rw [hc8]; decide) (by rw [hc8]; decide) (by rw [hc8]; rfl) (by decide) ?_
      refine lv_aload_n hx hb dX6_many_40 rfl (lv_at hl 0 rfl) ?_
      refine g_YearDeck_trip X I fl_X6_12 dX6_many_41 ?_
      refine g_Ride_sections X I fl_X6_240 dX6_many_44 ?_
      exact r_iret X I hD dX6_many_47
    · have hD := ite_n hc8 hD
      by_cases hc13 : p1 = (2 : Int32)
      · have hD := ite_p hc13 hD
        refine lv_tableIn (off := 47) (tgt := 48) hx hb dX6_many_1 (by rw [hc13]; decide) (by rw [hc13]; decide) (by rw [hc13]; rfl) (by decide) ?_
        refine lv_aload_n hx hb dX6_many_48 rfl (lv_at hl 0 rfl) ?_
        refine g_YearDeck_trip X I fl_X6_12 dX6_many_49 ?_
        refine g_Ride_seats X I fl_X6_114 dX6_many_52 ?_
        exact r_iret X I hD dX6_many_55
      · have hD := ite_n hc13 hD
        by_cases hc18 : p1 = (3 : Int32)
        · have hD := ite_p hc18 hD
          refine lv_tableIn (off := 55) (tgt := 56) hx hb dX6_many_1 (by rw [hc18]; decide) (by rw [hc18]; decide) (by rw [hc18]; rfl) (by decide) ?_
          refine lv_aload_n hx hb dX6_many_56 rfl (lv_at hl 0 rfl) ?_
          refine g_YearDeck_read X I fl_X6_21 dX6_many_57 ?_
          refine g_Readings_count X I fl_X6_68 dX6_many_60 ?_
          exact r_iret X I hD dX6_many_63
        · have hD := ite_n hc18 hD
          have ho3 := ne_toInt hc3 (a := 0) (by decide)
          have ho8 := ne_toInt hc8 (a := 1) (by decide)
          have ho13 := ne_toInt hc13 (a := 2) (by decide)
          have ho18 := ne_toInt hc18 (a := 3) (by decide)
          refine lv_tableOut (tgt := 64) hx hb dX6_many_1 (by omega) (by decide) ?_
          refine lv_bipush (v := -2) hx hb dX6_many_64 (by decide) ?_
          exact r_iret X I hD dX6_many_66
