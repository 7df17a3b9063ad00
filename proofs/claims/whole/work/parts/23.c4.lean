/-! YearDeck.within(II)Z -/
def D_X6_within (σ : St) (p0 : Int32) (p1 : Int32) : Option Int32 := if p0 < 0 then some (0 : Int32) else if p1 < p0 then some (0 : Int32) else some (1 : Int32)
set_option maxRecDepth 100000 in
set_option maxHeartbeats 4000000 in
theorem c_X6_within (l : Launch) (g : Gh) (q : Nat → Nat) (sz : Nat) (σ : St) (p0 : Int32) (p1 : Int32) {rr : Int32} (hD : D_X6_within σ p0 p1 = some rr) : Met l yX6_within (wU yX6_within cX6_within 2 (some .boolean)) (rmD 0) (PQ g (eC g q) q 23 σ sz [.int p0, .int p1]) (QI g (eC g q) q 23 rr σ sz) 0 0 (AQ q 23 sz) := by
  refine met_of (Qc := QI g (eC g q) q 23 rr σ) (by decide) (Nat.le_of_ble_eq_true rfl) ?_
  intro p e s m below meth c ls X I hl
  have hx := X.1
  have hb := X.2.1
  have hl : lv_has ls 2 [(0, .int p0), (1, .int p1)] := hl
  unfold D_X6_within at hD
  refine lv_iload_n hx hb dX6_within_0 rfl (lv_at hl 0 rfl) ?_
  refine lv_if_lt (tgt := 13) hx hb dX6_within_1 (by decide) (fun hc2 => ?_) (fun hc2 => ?_)
  · have hD := ite_p hc2 hD
    refine lv_iconst (v := 0) hx hb dX6_within_13 (by decide) ?_
    exact r_zret X I hD rfl dX6_within_14
  · have hD := ite_n hc2 hD
    refine lv_iload_n hx hb dX6_within_4 rfl (lv_at hl 0 rfl) ?_
    refine lv_iload_n hx hb dX6_within_5 rfl (lv_at hl 1 rfl) ?_
    refine lv_icmp_gt (tgt := 13) hx hb dX6_within_6 (by decide) (fun hc7 => ?_) (fun hc7 => ?_)
    · have hD := ite_p hc7 hD
      refine lv_iconst (v := 0) hx hb dX6_within_13 (by decide) ?_
      exact r_zret X I hD rfl dX6_within_14
    · have hD := ite_n hc7 hD
      refine lv_iconst (v := 1) hx hb dX6_within_9 (by decide) ?_
      refine lv_goto (tgt := 14) hx hb dX6_within_10 (by decide) ?_
      exact r_zret X I hD rfl dX6_within_14

/-! YearDeck.isSheet(I)Z -/
def D_X6_isSheet (σ : St) (p0 : Int32) : Option Int32 := (D_X6_within σ p0 (3 : Int32)).bind fun y3 => gd (isB y3) (some y3)
set_option maxRecDepth 100000 in
set_option maxHeartbeats 4000000 in
theorem c_X6_isSheet (l : Launch) (g : Gh) (q : Nat → Nat) (sz : Nat) (σ : St) (p0 : Int32) {rr : Int32} (hD : D_X6_isSheet σ p0 = some rr) : Met l yX6_isSheet (wU yX6_isSheet cX6_isSheet 1 (some .boolean)) (rmD 1) (PQ g (eC g q) q 23 σ sz [.int p0]) (QI g (eC g q) q 23 rr σ sz) 0 0 (AQ q 23 sz) := by
  refine met_of (Qc := QI g (eC g q) q 23 rr σ) (by decide) (Nat.le_of_ble_eq_true rfl) ?_
  intro p e s m below meth c ls X I hl
  have hx := X.1
  have hb := X.2.1
  have hl : lv_has ls 1 [(0, .int p0)] := hl
  unfold D_X6_isSheet at hD
  refine lv_iload_n hx hb dX6_isSheet_0 rfl (lv_at hl 0 rfl) ?_
  refine lv_iconst (v := 3) hx hb dX6_isSheet_1 (by decide) ?_
  obtain ⟨y3, hy3, hD⟩ := bd_s hD
  refine r_calli (r_runS (As := [.int p0, .int (3 : Int32)]) (rest := []) X I (c_X6_within l g q _ σ p0 (3 : Int32) hy3) ks_X6_within ml_X6_106 ⟨Nat.le_of_ble_eq_true rfl, Nat.le_of_ble_eq_true rfl⟩ ⟨Nat.zero_le _, Nat.zero_le _⟩ rfl rfl hl.1 (Nat.le_of_ble_eq_true rfl) dX6_isSheet_2) I (fun H locs I => ?_)
  obtain ⟨hg4, hD⟩ := gd_s hD
  exact r_zret X I hD hg4 dX6_isSheet_5

/-! YearDeck.isLane(I)Z -/
def D_X6_isLane (σ : St) (p0 : Int32) : Option Int32 := (D_X6_within σ p0 (2 : Int32)).bind fun y3 => gd (isB y3) (some y3)
set_option maxRecDepth 100000 in
set_option maxHeartbeats 4000000 in
theorem c_X6_isLane (l : Launch) (g : Gh) (q : Nat → Nat) (sz : Nat) (σ : St) (p0 : Int32) {rr : Int32} (hD : D_X6_isLane σ p0 = some rr) : Met l yX6_isLane (wU yX6_isLane cX6_isLane 1 (some .boolean)) (rmD 1) (PQ g (eC g q) q 23 σ sz [.int p0]) (QI g (eC g q) q 23 rr σ sz) 0 0 (AQ q 23 sz) := by
  refine met_of (Qc := QI g (eC g q) q 23 rr σ) (by decide) (Nat.le_of_ble_eq_true rfl) ?_
  intro p e s m below meth c ls X I hl
  have hx := X.1
  have hb := X.2.1
  have hl : lv_has ls 1 [(0, .int p0)] := hl
  unfold D_X6_isLane at hD
  refine lv_iload_n hx hb dX6_isLane_0 rfl (lv_at hl 0 rfl) ?_
  refine lv_iconst (v := 2) hx hb dX6_isLane_1 (by decide) ?_
  obtain ⟨y3, hy3, hD⟩ := bd_s hD
  refine r_calli (r_runS (As := [.int p0, .int (2 : Int32)]) (rest := []) X I (c_X6_within l g q _ σ p0 (2 : Int32) hy3) ks_X6_within ml_X6_106 ⟨Nat.le_of_ble_eq_true rfl, Nat.le_of_ble_eq_true rfl⟩ ⟨Nat.zero_le _, Nat.zero_le _⟩ rfl rfl hl.1 (Nat.le_of_ble_eq_true rfl) dX6_isLane_2) I (fun H locs I => ?_)
  obtain ⟨hg4, hD⟩ := gd_s hD
  exact r_zret X I hD hg4 dX6_isLane_5

/-! YearDeck.failed(I)I -/
def D_X6_failed (σ : St) (p1 : Int32) : Option (Int32 × St) := some ((-10 : Int32) - p1, up2 σ 0 5 p1)
set_option maxRecDepth 100000 in
set_option maxHeartbeats 4000000 in
theorem c_X6_failed (l : Launch) (g : Gh) (q : Nat → Nat) (sz : Nat) (σ : St) (p1 : Int32) {rr : (Int32 × St)} (hD : D_X6_failed σ p1 = some rr) : Met l yX6_failed (wU yX6_failed cX6_failed 2 (some .int)) (rmD 0) (PQ g (eC g q) q 23 σ sz [.ref (q 0), .int p1]) (QI g (eC g q) q 23 rr.1 rr.2 sz) 0 0 (AQ q 23 sz) := by
  refine met_of (Qc := QI g (eC g q) q 23 rr.1 rr.2) (by decide) (Nat.le_of_ble_eq_true rfl) ?_
  intro p e s m below meth c ls X I hl
  have hx := X.1
  have hb := X.2.1
  have hl : lv_has ls 2 [(0, .ref (q 0)), (1, .int p1)] := hl
  unfold D_X6_failed at hD
  refine lv_aload_n hx hb dX6_failed_0 rfl (lv_at hl 0 rfl) ?_
  refine lv_iload_n hx hb dX6_failed_1 rfl (lv_at hl 1 rfl) ?_
  refine p_YearDeck_lastFault X I fl_X6_39 dX6_failed_2 (fun H locs I => ?_)
  refine lv_bipush (v := -10) hx hb dX6_failed_5 (by decide) ?_
  refine lv_iload_n hx hb dX6_failed_7 rfl (lv_at hl 1 rfl) ?_
  refine lv_isub hx hb dX6_failed_8 ?_
  exact r_iret2 X I hD dX6_failed_9

/-! YearDeck.ride(IIII)I -/
def D_X6_ride (σ : St) (p1 : Int32) (p2 : Int32) (p3 : Int32) (p4 : Int32) : Option (Int32 × St) := (D_X6_isSheet (up2 σ 0 5 (0 : Int32)) p1).bind fun y5 => if y5 = 0 then some ((-1 : Int32), up2 σ 0 5 (0 : Int32)) else (D_X6_isLane (up2 σ 0 5 (0 : Int32)) p2).bind fun y8 => if y8 = 0 then some ((-2 : Int32), up2 σ 0 5 (0 : Int32)) else gd (inb p1 4) ((D_X5_faultOfCells (up2 σ 0 5 (0 : Int32)) (14 + p1.toNatClampNeg) p2 p3 p4).bind fun y19 => if y19 = 0 then (D_X3_firstFault (up2 σ 0 5 (0 : Int32)) (14 + p1.toNatClampNeg) p3 p4).bind fun y26 => if y26 = (-9 : Int32) then (D_X2_board (up2 σ 0 5 (0 : Int32)) (14 + p1.toNatClampNeg) p3 p4).bind fun y36 => some ((up2 y36 9 3 (0 : Int32)) 1 5, up2 y36 9 3 (0 : Int32)) else some ((-100 : Int32) - y26, up2 σ 0 5 (0 : Int32)) else (D_X6_failed (up2 σ 0 5 (0 : Int32)) y19).bind fun y51 => some (y51.1, y51.2))
set_option maxRecDepth 100000 in
set_option maxHeartbeats 4000000 in
theorem c_X6_ride (l : Launch) (g : Gh) (q : Nat → Nat) (sz : Nat) (σ : St) (p1 : Int32) (p2 : Int32) (p3 : Int32) (p4 : Int32) {rr : (Int32 × St)} (hD : D_X6_ride σ p1 p2 p3 p4 = some rr) : Met l yX6_ride (wU yX6_ride cX6_ride 8 (some .int)) (rmD 5) (PQ g (eC g q) q 23 σ sz [.ref (q 0), .int p1, .int p2, .int p3, .int p4]) (QI g (eC g q) q 23 rr.1 rr.2 sz) 0 0 (AQ q 23 sz) := by
  refine met_of (Qc := QI g (eC g q) q 23 rr.1 rr.2) (by decide) (Nat.le_of_ble_eq_true rfl) ?_
  intro p e s m below meth c ls X I hl
  have hx := X.1
  have hb := X.2.1
  have hl : lv_has ls 8 [(0, .ref (q 0)), (1, .int p1), (2, .int p2), (3, .int p3), (4, .int p4)] := hl
  unfold D_X6_ride at hD
  refine lv_aload_n hx hb dX6_ride_0 rfl (lv_at hl 0 rfl) ?_
  refine lv_iconst (v := 0) hx hb dX6_ride_1 (by decide) ?_
  refine p_YearDeck_lastFault X I fl_X6_39 dX6_ride_2 (fun H locs I => ?_)
  refine lv_iload_n hx hb dX6_ride_5 rfl (lv_at hl 1 rfl) ?_
  obtain ⟨y5, hy5, hD⟩ := bd_s hD
  refine r_calli (r_runS (As := [.int p1]) (rest := []) X I (c_X6_isSheet l g q _ (up2 σ 0 5 (0 : Int32)) p1 hy5) ks_X6_isSheet ml_X6_43 ⟨Nat.le_of_ble_eq_true rfl, Nat.le_of_ble_eq_true rfl⟩ ⟨Nat.zero_le _, Nat.zero_le _⟩ rfl rfl hl.1 (Nat.le_of_ble_eq_true rfl) dX6_ride_6) I (fun H locs I => ?_)
  refine lv_if_ne (tgt := 14) hx hb dX6_ride_9 (by decide) (fun hc6 => ?_) (fun hc6 => ?_)
  · have hD := ite_n hc6 hD
    refine lv_iload_n hx hb dX6_ride_14 rfl (lv_at hl 2 rfl) ?_
    obtain ⟨y8, hy8, hD⟩ := bd_s hD
    refine r_calli (r_runS (As := [.int p2]) (rest := []) X I (c_X6_isLane l g q _ (up2 σ 0 5 (0 : Int32)) p2 hy8) ks_X6_isLane ml_X6_47 ⟨Nat.le_of_ble_eq_true rfl, Nat.le_of_ble_eq_true rfl⟩ ⟨Nat.zero_le _, Nat.zero_le _⟩ rfl rfl hl.1 (Nat.le_of_ble_eq_true rfl) dX6_ride_15) I (fun H locs I => ?_)
    refine lv_if_ne (tgt := 24) hx hb dX6_ride_18 (by decide) (fun hc9 => ?_) (fun hc9 => ?_)
    · have hD := ite_n hc9 hD
      refine lv_aload_n hx hb dX6_ride_24 rfl (lv_at hl 0 rfl) ?_
      refine g_YearDeck_sheets X I fl_X6_27 dX6_ride_25 ?_
      refine lv_iload_n hx hb dX6_ride_28 rfl (lv_at hl 1 rfl) ?_
      obtain ⟨hg13, hD⟩ := gd_s hD
      refine r_aald (t0 := 3) X I (by decide) rfl (eCr_13 g q _) hg13 dX6_ride_29 ?_
      refine lv_astore (lv' := [(5, .ref (q (14 + p1.toNatClampNeg))), (0, .ref (q 0)), (1, .int p1), (2, .int p2), (3, .int p3), (4, .int p4)]) hx hb dX6_ride_30 hl (by decide) rfl (fun ls hl => ?_)
      refine lv_aload hx hb dX6_ride_32 (lv_at hl 0 rfl) ?_
      refine lv_iload_n hx hb dX6_ride_34 rfl (lv_at hl 3 rfl) ?_
      refine lv_iload_n hx hb dX6_ride_35 rfl (lv_at hl 4 rfl) ?_
      refine lv_iload hx hb dX6_ride_36 (lv_at hl 5 rfl) ?_
      obtain ⟨y19, hy19, hD⟩ := bd_s hD
      refine r_calli (r_runV (As := [.int p2, .int p3, .int p4]) (rest := []) X I (c_X5_faultOfCells l g q _ (up2 σ 0 5 (0 : Int32)) (14 + p1.toNatClampNeg) p2 p3 p4 (kSh_of hg13) hy19) kv_X5_faultOfCells ml_X6_50 rfl (kSh_lt (kSh_of hg13)) (eC_Sheet g q _ (kSh_of hg13)) ⟨Nat.le_of_ble_eq_true rfl, Nat.le_of_ble_eq_true rfl⟩ ⟨Nat.zero_le _, Nat.zero_le _⟩ rfl rfl hl.1 (Nat.le_of_ble_eq_true rfl) dX6_ride_38) I (fun H locs I => ?_)
      refine lv_istore (lv' := [(6, .int y19), (5, .ref (q (14 + p1.toNatClampNeg))), (0, .ref (q 0)), (1, .int p1), (2, .int p2), (3, .int p3), (4, .int p4)]) hx hb dX6_ride_41 hl (by decide) rfl (fun ls hl => ?_)
      refine lv_iload hx hb dX6_ride_43 (lv_at hl 0 rfl) ?_
      refine lv_if_eq (tgt := 55) hx hb dX6_ride_45 (by decide) (fun hc22 => ?_) (fun hc22 => ?_)
      · have hD := ite_p hc22 hD
        refine lv_aload hx hb dX6_ride_55 (lv_at hl 1 rfl) ?_
        refine lv_iload_n hx hb dX6_ride_57 rfl (lv_at hl 5 rfl) ?_
        refine lv_iload hx hb dX6_ride_58 (lv_at hl 6 rfl) ?_
        obtain ⟨y26, hy26, hD⟩ := bd_s hD
        refine r_calli (r_runS (As := [.ref (q (14 + p1.toNatClampNeg)), .int p3, .int p4]) (rest := []) X I (c_X3_firstFault l g q _ (up2 σ 0 5 (0 : Int32)) (14 + p1.toNatClampNeg) p3 p4 (kSh_of hg13) hy26) ks_X3_firstFault ml_X6_58 ⟨Nat.le_of_ble_eq_true rfl, Nat.le_of_ble_eq_true rfl⟩ ⟨Nat.zero_le _, Nat.zero_le _⟩ rfl rfl hl.1 (Nat.le_of_ble_eq_true rfl) dX6_ride_60) I (fun H locs I => ?_)
        refine lv_istore (lv' := [(7, .int y26), (6, .int y19), (5, .ref (q (14 + p1.toNatClampNeg))), (0, .ref (q 0)), (1, .int p1), (2, .int p2), (3, .int p3), (4, .int p4)]) hx hb dX6_ride_63 hl (by decide) rfl (fun ls hl => ?_)
        refine lv_iload hx hb dX6_ride_65 (lv_at hl 0 rfl) ?_
        refine lv_bipush (v := -9) hx hb dX6_ride_67 (by decide) ?_
        refine lv_icmp_eq (tgt := 78) hx hb dX6_ride_69 (by decide) (fun hc30 => ?_) (fun hc30 => ?_)
        · have hD := ite_p hc30 hD
          refine lv_aload_n hx hb dX6_ride_78 rfl (lv_at hl 3 rfl) ?_
          refine g_YearDeck_trip X I fl_X6_12 dX6_ride_79 ?_
          refine lv_aload hx hb dX6_ride_82 (lv_at hl 2 rfl) ?_
          refine lv_iload_n hx hb dX6_ride_84 rfl (lv_at hl 6 rfl) ?_
          refine lv_iload hx hb dX6_ride_85 (lv_at hl 7 rfl) ?_
          obtain ⟨y36, hy36, hD⟩ := bd_s hD
          refine r_callv (r_runV (As := [.ref (q (14 + p1.toNatClampNeg)), .int p3, .int p4]) (rest := []) X I (c_X2_board l g q _ (up2 σ 0 5 (0 : Int32)) (14 + p1.toNatClampNeg) p3 p4 (kSh_of hg13) hy36) kv_X2_board ml_X6_64 rfl (by decide) (eC_Ride g q _) ⟨Nat.le_of_ble_eq_true rfl, Nat.le_of_ble_eq_true rfl⟩ ⟨Nat.zero_le _, Nat.zero_le _⟩ rfl rfl hl.1 (Nat.le_of_ble_eq_true rfl) dX6_ride_87) I (fun H locs I => ?_)
          refine lv_aload_n hx hb dX6_ride_90 rfl (lv_at hl 3 rfl) ?_
          refine g_YearDeck_read X I fl_X6_21 dX6_ride_91 ?_
          refine lv_iconst (v := 0) hx hb dX6_ride_94 (by decide) ?_
          refine p_Readings_count X I fl_X6_68 dX6_ride_95 (fun H locs I => ?_)
          refine lv_aload_n hx hb dX6_ride_98 rfl (lv_at hl 3 rfl) ?_
          refine g_YearDeck_trip X I fl_X6_12 dX6_ride_99 ?_
          refine g_Ride_count X I fl_X6_71 dX6_ride_102 ?_
          exact r_iret2 X I hD dX6_ride_105
        · have hD := ite_n hc30 hD
          refine lv_bipush (v := -100) hx hb dX6_ride_72 (by decide) ?_
          refine lv_iload hx hb dX6_ride_74 (lv_at hl 0 rfl) ?_
          refine lv_isub hx hb dX6_ride_76 ?_
          exact r_iret2 X I hD dX6_ride_77
      · have hD := ite_n hc22 hD
        refine lv_aload_n hx hb dX6_ride_48 rfl (lv_at hl 2 rfl) ?_
        refine lv_iload hx hb dX6_ride_49 (lv_at hl 0 rfl) ?_
        obtain ⟨y51, hy51, hD⟩ := bd_s hD
        refine r_calli (r_runV (As := [.int y19]) (rest := []) X I (c_X6_failed l g q _ (up2 σ 0 5 (0 : Int32)) y19 hy51) kv_X6_failed ml_X6_54 rfl (by decide) (eC_YearDeck g q _) ⟨Nat.le_of_ble_eq_true rfl, Nat.le_of_ble_eq_true rfl⟩ ⟨Nat.zero_le _, Nat.zero_le _⟩ rfl rfl hl.1 (Nat.le_of_ble_eq_true rfl) dX6_ride_51) I (fun H locs I => ?_)
        exact r_iret2 X I hD dX6_ride_54
    · have hD := ite_p hc9 hD
      refine lv_bipush (v := -2) hx hb dX6_ride_21 (by decide) ?_
      exact r_iret2 X I hD dX6_ride_23
  · have hD := ite_p hc6 hD
    refine lv_iconst (v := -1) hx hb dX6_ride_12 (by decide) ?_
    exact r_iret2 X I hD dX6_ride_13

/-! YearDeck.ofRider(II)I -/
def D_X6_ofRider (σ : St) (p1 : Int32) (p2 : Int32) : Option Int32 := (D_X2_hasRider σ p1).bind fun y4 => if y4 = 0 then some (-1 : Int32) else gd (inb p1 4) (if p2 = (0 : Int32) then some (σ (5 + p1.toNatClampNeg) 0) else if p2 = (1 : Int32) then some (σ (5 + p1.toNatClampNeg) 1) else if p2 = (2 : Int32) then some (σ (5 + p1.toNatClampNeg) 2) else if p2 = (3 : Int32) then some (σ (5 + p1.toNatClampNeg) 3) else if p2 = (4 : Int32) then some (σ (5 + p1.toNatClampNeg) 4) else if p2 = (5 : Int32) then (D_X4_own σ (5 + p1.toNatClampNeg)).bind fun y36 => some y36 else some (-2 : Int32))
set_option maxRecDepth 100000 in
set_option maxHeartbeats 4000000 in
theorem c_X6_ofRider (l : Launch) (g : Gh) (q : Nat → Nat) (sz : Nat) (σ : St) (p1 : Int32) (p2 : Int32) {rr : Int32} (hD : D_X6_ofRider σ p1 p2 = some rr) : Met l yX6_ofRider (wU yX6_ofRider cX6_ofRider 4 (some .int)) (rmD 1) (PQ g (eC g q) q 23 σ sz [.ref (q 0), .int p1, .int p2]) (QI g (eC g q) q 23 rr σ sz) 0 0 (AQ q 23 sz) := by
  refine met_of (Qc := QI g (eC g q) q 23 rr σ) (by decide) (Nat.le_of_ble_eq_true rfl) ?_
  intro p e s m below meth c ls X I hl
  have hx := X.1
  have hb := X.2.1
  have hl : lv_has ls 4 [(0, .ref (q 0)), (1, .int p1), (2, .int p2)] := hl
  unfold D_X6_ofRider at hD
  refine lv_aload_n hx hb dX6_ofRider_0 rfl (lv_at hl 0 rfl) ?_
  refine g_YearDeck_trip X I fl_X6_12 dX6_ofRider_1 ?_
  refine lv_iload_n hx hb dX6_ofRider_4 rfl (lv_at hl 1 rfl) ?_
  obtain ⟨y4, hy4, hD⟩ := bd_s hD
  refine r_calli (r_runV (As := [.int p1]) (rest := []) X I (c_X2_hasRider l g q _ σ p1 hy4) kv_X2_hasRider ml_X6_72 rfl (by decide) (eC_Ride g q _) ⟨Nat.le_of_ble_eq_true rfl, Nat.le_of_ble_eq_true rfl⟩ ⟨Nat.zero_le _, Nat.zero_le _⟩ rfl rfl hl.1 (Nat.le_of_ble_eq_true rfl) dX6_ofRider_5) I (fun H locs I => ?_)
  refine lv_if_ne (tgt := 13) hx hb dX6_ofRider_8 (by decide) (fun hc5 => ?_) (fun hc5 => ?_)
  · have hD := ite_n hc5 hD
    refine lv_aload_n hx hb dX6_ofRider_13 rfl (lv_at hl 0 rfl) ?_
    refine g_YearDeck_trip X I fl_X6_12 dX6_ofRider_14 ?_
    refine g_Ride_riders X I fl_X6_75 dX6_ofRider_17 ?_
    refine lv_iload_n hx hb dX6_ofRider_20 rfl (lv_at hl 1 rfl) ?_
    obtain ⟨hg10, hD⟩ := gd_s hD
    refine r_aald (t0 := 2) X I (by decide) rfl (eCr_3 g q _) hg10 dX6_ofRider_21 ?_
    refine lv_astore_n (lv' := [(3, .ref (q (5 + p1.toNatClampNeg))), (0, .ref (q 0)), (1, .int p1), (2, .int p2)]) hx hb dX6_ofRider_22 rfl hl (by decide) rfl (fun ls hl => ?_)
    refine lv_iload_n hx hb dX6_ofRider_23 rfl (lv_at hl 3 rfl) ?_
    by_cases hc14 : p2 = (0 : Int32)
    · have hD := ite_p hc14 hD
      refine lv_tableIn (off := 40) (tgt := 64) hx hb dX6_ofRider_24 (by rw [hc14]; decide) (by rw [hc14]; decide) (by rw [hc14]; rfl) (by decide) ?_
      refine lv_aload_n hx hb dX6_ofRider_64 rfl (lv_at hl 0 rfl) ?_
      refine g_Rider_kind X I (kRi_of hg10) fl_X6_79 dX6_ofRider_65 ?_
      exact r_iret X I hD dX6_ofRider_68
    · have hD := ite_n hc14 hD
      by_cases hc18 : p2 = (1 : Int32)
      · have hD := ite_p hc18 hD
        refine lv_tableIn (off := 45) (tgt := 69) hx hb dX6_ofRider_24 (by rw [hc18]; decide) (by rw [hc18]; decide) (by rw [hc18]; rfl) (by decide) ?_
        refine lv_aload_n hx hb dX6_ofRider_69 rfl (lv_at hl 0 rfl) ?_
        refine g_Rider_on X I (kRi_of hg10) fl_X6_84 dX6_ofRider_70 ?_
        exact r_iret X I hD dX6_ofRider_73
      · have hD := ite_n hc18 hD
        by_cases hc22 : p2 = (2 : Int32)
        · have hD := ite_p hc22 hD
          refine lv_tableIn (off := 50) (tgt := 74) hx hb dX6_ofRider_24 (by rw [hc22]; decide) (by rw [hc22]; decide) (by rw [hc22]; rfl) (by decide) ?_
          refine lv_aload_n hx hb dX6_ofRider_74 rfl (lv_at hl 0 rfl) ?_
          refine g_Rider_off X I (kRi_of hg10) fl_X6_87 dX6_ofRider_75 ?_
          exact r_iret X I hD dX6_ofRider_78
        · have hD := ite_n hc22 hD
          by_cases hc26 : p2 = (3 : Int32)
          · have hD := ite_p hc26 hD
            refine lv_tableIn (off := 55) (tgt := 79) hx hb dX6_ofRider_24 (by rw [hc26]; decide) (by rw [hc26]; decide) (by rw [hc26]; rfl) (by decide) ?_
            refine lv_aload_n hx hb dX6_ofRider_79 rfl (lv_at hl 0 rfl) ?_
            refine g_Rider_years X I (kRi_of hg10) fl_X6_90 dX6_ofRider_80 ?_
            exact r_iret X I hD dX6_ofRider_83
          · have hD := ite_n hc26 hD
            by_cases hc30 : p2 = (4 : Int32)
            · have hD := ite_p hc30 hD
              refine lv_tableIn (off := 60) (tgt := 84) hx hb dX6_ofRider_24 (by rw [hc30]; decide) (by rw [hc30]; decide) (by rw [hc30]; rfl) (by decide) ?_
              refine lv_aload_n hx hb dX6_ofRider_84 rfl (lv_at hl 0 rfl) ?_
              refine g_Rider_want X I (kRi_of hg10) fl_X6_93 dX6_ofRider_85 ?_
              exact r_iret X I hD dX6_ofRider_88
            · have hD := ite_n hc30 hD
              by_cases hc34 : p2 = (5 : Int32)
              · have hD := ite_p hc34 hD
                refine lv_tableIn (off := 65) (tgt := 89) hx hb dX6_ofRider_24 (by rw [hc34]; decide) (by rw [hc34]; decide) (by rw [hc34]; rfl) (by decide) ?_
                refine lv_aload_n hx hb dX6_ofRider_89 rfl (lv_at hl 0 rfl) ?_
                obtain ⟨y36, hy36, hD⟩ := bd_s hD
                refine r_calli (r_runV (As := []) (rest := []) X I (c_X4_own l g q _ σ (5 + p1.toNatClampNeg) (kRi_of hg10) hy36) kv_X4_own ml_X6_96 rfl (kRi_lt (kRi_of hg10)) (eC_Rider g q _ (kRi_of hg10)) ⟨Nat.le_of_ble_eq_true rfl, Nat.le_of_ble_eq_true rfl⟩ ⟨Nat.zero_le _, Nat.zero_le _⟩ rfl rfl hl.1 (Nat.le_of_ble_eq_true rfl) dX6_ofRider_90) I (fun H locs I => ?_)
                exact r_iret X I hD dX6_ofRider_93
              · have hD := ite_n hc34 hD
                have ho14 := ne_toInt hc14 (a := 0) (by decide)
                have ho18 := ne_toInt hc18 (a := 1) (by decide)
                have ho22 := ne_toInt hc22 (a := 2) (by decide)
                have ho26 := ne_toInt hc26 (a := 3) (by decide)
                have ho30 := ne_toInt hc30 (a := 4) (by decide)
                have ho34 := ne_toInt hc34 (a := 5) (by decide)
                refine lv_tableOut (tgt := 94) hx hb dX6_ofRider_24 (by omega) (by decide) ?_
                refine lv_bipush (v := -2) hx hb dX6_ofRider_94 (by decide) ?_
                exact r_iret X I hD dX6_ofRider_96
  · have hD := ite_p hc5 hD
    refine lv_iconst (v := -1) hx hb dX6_ofRider_11 (by decide) ?_
    exact r_iret X I hD dX6_ofRider_12

/-! YearDeck.slope(I)I -/
def D_X6_slope (σ : St) (p1 : Int32) : Option Int32 := (D_X2_hasSection σ p1).bind fun y4 => if y4 = 0 then some (-1 : Int32) else gd (inb p1 5) (some (σ 2 p1.toNatClampNeg))
set_option maxRecDepth 100000 in
set_option maxHeartbeats 4000000 in
theorem c_X6_slope (l : Launch) (g : Gh) (q : Nat → Nat) (sz : Nat) (σ : St) (p1 : Int32) {rr : Int32} (hD : D_X6_slope σ p1 = some rr) : Met l yX6_slope (wU yX6_slope cX6_slope 2 (some .int)) (rmD 1) (PQ g (eC g q) q 23 σ sz [.ref (q 0), .int p1]) (QI g (eC g q) q 23 rr σ sz) 0 0 (AQ q 23 sz) := by
  refine met_of (Qc := QI g (eC g q) q 23 rr σ) (by decide) (Nat.le_of_ble_eq_true rfl) ?_
  intro p e s m below meth c ls X I hl
  have hx := X.1
  have hb := X.2.1
  have hl : lv_has ls 2 [(0, .ref (q 0)), (1, .int p1)] := hl
  unfold D_X6_slope at hD
  refine lv_aload_n hx hb dX6_slope_0 rfl (lv_at hl 0 rfl) ?_
  refine g_YearDeck_trip X I fl_X6_12 dX6_slope_1 ?_
  refine lv_iload_n hx hb dX6_slope_4 rfl (lv_at hl 1 rfl) ?_
  obtain ⟨y4, hy4, hD⟩ := bd_s hD
  refine r_calli (r_runV (As := [.int p1]) (rest := []) X I (c_X2_hasSection l g q _ σ p1 hy4) kv_X2_hasSection ml_X6_100 rfl (by decide) (eC_Ride g q _) ⟨Nat.le_of_ble_eq_true rfl, Nat.le_of_ble_eq_true rfl⟩ ⟨Nat.zero_le _, Nat.zero_le _⟩ rfl rfl hl.1 (Nat.le_of_ble_eq_true rfl) dX6_slope_5) I (fun H locs I => ?_)
  refine lv_if_eq (tgt := 23) hx hb dX6_slope_8 (by decide) (fun hc5 => ?_) (fun hc5 => ?_)
  · have hD := ite_p hc5 hD
    refine lv_iconst (v := -1) hx hb dX6_slope_23 (by decide) ?_
    exact r_iret X I hD dX6_slope_24
  · have hD := ite_n hc5 hD
    refine lv_aload_n hx hb dX6_slope_11 rfl (lv_at hl 0 rfl) ?_
    refine g_YearDeck_trip X I fl_X6_12 dX6_slope_12 ?_
    refine g_Ride_steep X I fl_X6_103 dX6_slope_15 ?_
    refine lv_iload_n hx hb dX6_slope_18 rfl (lv_at hl 1 rfl) ?_
    obtain ⟨hg12, hD⟩ := gd_s hD
    refine r_iald X I (by decide) ((eCa_2 g q) _) hg12 dX6_slope_19 ?_
    refine lv_goto (tgt := 24) hx hb dX6_slope_20 (by decide) ?_
    exact r_iret X I hD dX6_slope_24

/-! YearDeck.tilt(II)I -/
def D_X6_tilt (σ : St) (p1 : Int32) (p2 : Int32) : Option (Int32 × St) := (D_X2_hasSection σ p1).bind fun y4 => if y4 = 0 then some ((-1 : Int32), σ) else (D_X6_within σ p2 (3 : Int32)).bind fun y8 => if y8 = 0 then some ((-2 : Int32), σ) else gd (inb p1 5) (gd (inb p1 5) (some (σ 2 p1.toNatClampNeg, up2 σ 2 p1.toNatClampNeg p2)))
set_option maxRecDepth 100000 in
set_option maxHeartbeats 4000000 in
theorem c_X6_tilt (l : Launch) (g : Gh) (q : Nat → Nat) (sz : Nat) (σ : St) (p1 : Int32) (p2 : Int32) {rr : (Int32 × St)} (hD : D_X6_tilt σ p1 p2 = some rr) : Met l yX6_tilt (wU yX6_tilt cX6_tilt 4 (some .int)) (rmD 1) (PQ g (eC g q) q 23 σ sz [.ref (q 0), .int p1, .int p2]) (QI g (eC g q) q 23 rr.1 rr.2 sz) 0 0 (AQ q 23 sz) := by
  refine met_of (Qc := QI g (eC g q) q 23 rr.1 rr.2) (by decide) (Nat.le_of_ble_eq_true rfl) ?_
  intro p e s m below meth c ls X I hl
  have hx := X.1
  have hb := X.2.1
  have hl : lv_has ls 4 [(0, .ref (q 0)), (1, .int p1), (2, .int p2)] := hl
  unfold D_X6_tilt at hD
  refine lv_aload_n hx hb dX6_tilt_0 rfl (lv_at hl 0 rfl) ?_
  refine g_YearDeck_trip X I fl_X6_12 dX6_tilt_1 ?_
  refine lv_iload_n hx hb dX6_tilt_4 rfl (lv_at hl 1 rfl) ?_
  obtain ⟨y4, hy4, hD⟩ := bd_s hD
  refine r_calli (r_runV (As := [.int p1]) (rest := []) X I (c_X2_hasSection l g q _ σ p1 hy4) kv_X2_hasSection ml_X6_100 rfl (by decide) (eC_Ride g q _) ⟨Nat.le_of_ble_eq_true rfl, Nat.le_of_ble_eq_true rfl⟩ ⟨Nat.zero_le _, Nat.zero_le _⟩ rfl rfl hl.1 (Nat.le_of_ble_eq_true rfl) dX6_tilt_5) I (fun H locs I => ?_)
  refine lv_if_ne (tgt := 13) hx hb dX6_tilt_8 (by decide) (fun hc5 => ?_) (fun hc5 => ?_)
  · have hD := ite_n hc5 hD
    refine lv_iload_n hx hb dX6_tilt_13 rfl (lv_at hl 2 rfl) ?_
    refine lv_iconst (v := 3) hx hb dX6_tilt_14 (by decide) ?_
    obtain ⟨y8, hy8, hD⟩ := bd_s hD
    refine r_calli (r_runS (As := [.int p2, .int (3 : Int32)]) (rest := []) X I (c_X6_within l g q _ σ p2 (3 : Int32) hy8) ks_X6_within ml_X6_106 ⟨Nat.le_of_ble_eq_true rfl, Nat.le_of_ble_eq_true rfl⟩ ⟨Nat.zero_le _, Nat.zero_le _⟩ rfl rfl hl.1 (Nat.le_of_ble_eq_true rfl) dX6_tilt_15) I (fun H locs I => ?_)
    refine lv_if_ne (tgt := 24) hx hb dX6_tilt_18 (by decide) (fun hc9 => ?_) (fun hc9 => ?_)
    · have hD := ite_n hc9 hD
      refine lv_aload_n hx hb dX6_tilt_24 rfl (lv_at hl 0 rfl) ?_
      refine g_YearDeck_trip X I fl_X6_12 dX6_tilt_25 ?_
      refine g_Ride_steep X I fl_X6_103 dX6_tilt_28 ?_
      refine lv_iload_n hx hb dX6_tilt_31 rfl (lv_at hl 1 rfl) ?_
      obtain ⟨hg14, hD⟩ := gd_s hD
      refine r_iald X I (by decide) ((eCa_2 g q) _) hg14 dX6_tilt_32 ?_
      refine lv_istore_n (lv' := [(3, .int (σ 2 p1.toNatClampNeg)), (0, .ref (q 0)), (1, .int p1), (2, .int p2)]) hx hb dX6_tilt_33 rfl hl (by decide) rfl (fun ls hl => ?_)
      refine lv_aload_n hx hb dX6_tilt_34 rfl (lv_at hl 1 rfl) ?_
      refine g_YearDeck_trip X I fl_X6_12 dX6_tilt_35 ?_
      refine g_Ride_steep X I fl_X6_103 dX6_tilt_38 ?_
      refine lv_iload_n hx hb dX6_tilt_41 rfl (lv_at hl 2 rfl) ?_
      refine lv_iload_n hx hb dX6_tilt_42 rfl (lv_at hl 3 rfl) ?_
      obtain ⟨hg21, hD⟩ := gd_s hD
      refine r_iast (eC_loc g q) X I (by decide) (eCa_2 g q) hg21 dX6_tilt_43 (fun H locs I => ?_)
      refine lv_iload_n hx hb dX6_tilt_44 rfl (lv_at hl 0 rfl) ?_
      exact r_iret2 X I hD dX6_tilt_45
    · have hD := ite_p hc9 hD
      refine lv_bipush (v := -2) hx hb dX6_tilt_21 (by decide) ?_
      exact r_iret2 X I hD dX6_tilt_23
  · have hD := ite_p hc5 hD
    refine lv_iconst (v := -1) hx hb dX6_tilt_11 (by decide) ?_
    exact r_iret2 X I hD dX6_tilt_12

/-! YearDeck.seat(I)I -/
def D_X6_seat (σ : St) (p1 : Int32) : Option (Int32 × St) := (D_X6_within σ p1 (3 : Int32)).bind fun y3 => if y3 = 0 then some ((-2 : Int32), σ) else (D_X2_isTold σ).bind fun y7 => if y7 = 0 then some ((-3 : Int32), σ) else some (σ 1 3, up2 σ 1 3 p1)
set_option maxRecDepth 100000 in
set_option maxHeartbeats 4000000 in
theorem c_X6_seat (l : Launch) (g : Gh) (q : Nat → Nat) (sz : Nat) (σ : St) (p1 : Int32) {rr : (Int32 × St)} (hD : D_X6_seat σ p1 = some rr) : Met l yX6_seat (wU yX6_seat cX6_seat 3 (some .int)) (rmD 1) (PQ g (eC g q) q 23 σ sz [.ref (q 0), .int p1]) (QI g (eC g q) q 23 rr.1 rr.2 sz) 0 0 (AQ q 23 sz) := by
  refine met_of (Qc := QI g (eC g q) q 23 rr.1 rr.2) (by decide) (Nat.le_of_ble_eq_true rfl) ?_
  intro p e s m below meth c ls X I hl
  have hx := X.1
  have hb := X.2.1
  have hl : lv_has ls 3 [(0, .ref (q 0)), (1, .int p1)] := hl
  unfold D_X6_seat at hD
  refine lv_iload_n hx hb dX6_seat_0 rfl (lv_at hl 1 rfl) ?_
  refine lv_iconst (v := 3) hx hb dX6_seat_1 (by decide) ?_
  obtain ⟨y3, hy3, hD⟩ := bd_s hD
  refine r_calli (r_runS (As := [.int p1, .int (3 : Int32)]) (rest := []) X I (c_X6_within l g q _ σ p1 (3 : Int32) hy3) ks_X6_within ml_X6_106 ⟨Nat.le_of_ble_eq_true rfl, Nat.le_of_ble_eq_true rfl⟩ ⟨Nat.zero_le _, Nat.zero_le _⟩ rfl rfl hl.1 (Nat.le_of_ble_eq_true rfl) dX6_seat_2) I (fun H locs I => ?_)
  refine lv_if_ne (tgt := 11) hx hb dX6_seat_5 (by decide) (fun hc4 => ?_) (fun hc4 => ?_)
  · have hD := ite_n hc4 hD
    refine lv_aload_n hx hb dX6_seat_11 rfl (lv_at hl 0 rfl) ?_
    refine g_YearDeck_trip X I fl_X6_12 dX6_seat_12 ?_
    obtain ⟨y7, hy7, hD⟩ := bd_s hD
    refine r_calli (r_runV (As := []) (rest := []) X I (c_X2_isTold l g q _ σ hy7) kv_X2_isTold ml_X6_110 rfl (by decide) (eC_Ride g q _) ⟨Nat.le_of_ble_eq_true rfl, Nat.le_of_ble_eq_true rfl⟩ ⟨Nat.zero_le _, Nat.zero_le _⟩ rfl rfl hl.1 (Nat.le_of_ble_eq_true rfl) dX6_seat_15) I (fun H locs I => ?_)
    refine lv_if_ne (tgt := 24) hx hb dX6_seat_18 (by decide) (fun hc8 => ?_) (fun hc8 => ?_)
    · have hD := ite_n hc8 hD
      refine lv_aload_n hx hb dX6_seat_24 rfl (lv_at hl 0 rfl) ?_
      refine g_YearDeck_trip X I fl_X6_12 dX6_seat_25 ?_
      refine g_Ride_seats X I fl_X6_114 dX6_seat_28 ?_
      refine lv_istore_n (lv' := [(2, .int (σ 1 3)), (0, .ref (q 0)), (1, .int p1)]) hx hb dX6_seat_31 rfl hl (by decide) rfl (fun ls hl => ?_)
      refine lv_aload_n hx hb dX6_seat_32 rfl (lv_at hl 1 rfl) ?_
      refine g_YearDeck_trip X I fl_X6_12 dX6_seat_33 ?_
      refine lv_iload_n hx hb dX6_seat_36 rfl (lv_at hl 2 rfl) ?_
      refine p_Ride_seats X I fl_X6_114 dX6_seat_37 (fun H locs I => ?_)
      refine lv_iload_n hx hb dX6_seat_40 rfl (lv_at hl 0 rfl) ?_
      exact r_iret2 X I hD dX6_seat_41
    · have hD := ite_p hc8 hD
      refine lv_bipush (v := -3) hx hb dX6_seat_21 (by decide) ?_
      exact r_iret2 X I hD dX6_seat_23
  · have hD := ite_p hc4 hD
    refine lv_bipush (v := -2) hx hb dX6_seat_8 (by decide) ?_
    exact r_iret2 X I hD dX6_seat_10

/-! YearDeck.wish(II)I -/
def D_X6_wish (σ : St) (p1 : Int32) (p2 : Int32) : Option (Int32 × St) := (D_X2_hasRider σ p1).bind fun y4 => if y4 = 0 then some ((-1 : Int32), σ) else (D_X6_within σ p2 (99 : Int32)).bind fun y8 => if y8 = 0 then some ((-2 : Int32), σ) else gd (inb p1 4) (some (σ (5 + p1.toNatClampNeg) 4, up2 σ (5 + p1.toNatClampNeg) 4 p2))
set_option maxRecDepth 100000 in
set_option maxHeartbeats 4000000 in
theorem c_X6_wish (l : Launch) (g : Gh) (q : Nat → Nat) (sz : Nat) (σ : St) (p1 : Int32) (p2 : Int32) {rr : (Int32 × St)} (hD : D_X6_wish σ p1 p2 = some rr) : Met l yX6_wish (wU yX6_wish cX6_wish 5 (some .int)) (rmD 1) (PQ g (eC g q) q 23 σ sz [.ref (q 0), .int p1, .int p2]) (QI g (eC g q) q 23 rr.1 rr.2 sz) 0 0 (AQ q 23 sz) := by
  refine met_of (Qc := QI g (eC g q) q 23 rr.1 rr.2) (by decide) (Nat.le_of_ble_eq_true rfl) ?_
  intro p e s m below meth c ls X I hl
  have hx := X.1
  have hb := X.2.1
  have hl : lv_has ls 5 [(0, .ref (q 0)), (1, .int p1), (2, .int p2)] := hl
  unfold D_X6_wish at hD
  refine lv_aload_n hx hb dX6_wish_0 rfl (lv_at hl 0 rfl) ?_
  refine g_YearDeck_trip X I fl_X6_12 dX6_wish_1 ?_
  refine lv_iload_n hx hb dX6_wish_4 rfl (lv_at hl 1 rfl) ?_
  obtain ⟨y4, hy4, hD⟩ := bd_s hD
  refine r_calli (r_runV (As := [.int p1]) (rest := []) X I (c_X2_hasRider l g q _ σ p1 hy4) kv_X2_hasRider ml_X6_72 rfl (by decide) (eC_Ride g q _) ⟨Nat.le_of_ble_eq_true rfl, Nat.le_of_ble_eq_true rfl⟩ ⟨Nat.zero_le _, Nat.zero_le _⟩ rfl rfl hl.1 (Nat.le_of_ble_eq_true rfl) dX6_wish_5) I (fun H locs I => ?_)
  refine lv_if_ne (tgt := 13) hx hb dX6_wish_8 (by decide) (fun hc5 => ?_) (fun hc5 => ?_)
  · have hD := ite_n hc5 hD
    refine lv_iload_n hx hb dX6_wish_13 rfl (lv_at hl 2 rfl) ?_
    refine lv_bipush (v := 99) hx hb dX6_wish_14 (by decide) ?_
    obtain ⟨y8, hy8, hD⟩ := bd_s hD
    refine r_calli (r_runS (As := [.int p2, .int (99 : Int32)]) (rest := []) X I (c_X6_within l g q _ σ p2 (99 : Int32) hy8) ks_X6_within ml_X6_106 ⟨Nat.le_of_ble_eq_true rfl, Nat.le_of_ble_eq_true rfl⟩ ⟨Nat.zero_le _, Nat.zero_le _⟩ rfl rfl hl.1 (Nat.le_of_ble_eq_true rfl) dX6_wish_16) I (fun H locs I => ?_)
    refine lv_if_ne (tgt := 25) hx hb dX6_wish_19 (by decide) (fun hc9 => ?_) (fun hc9 => ?_)
    · have hD := ite_n hc9 hD
      refine lv_aload_n hx hb dX6_wish_25 rfl (lv_at hl 0 rfl) ?_
      refine g_YearDeck_trip X I fl_X6_12 dX6_wish_26 ?_
      refine g_Ride_riders X I fl_X6_75 dX6_wish_29 ?_
      refine lv_iload_n hx hb dX6_wish_32 rfl (lv_at hl 1 rfl) ?_
      obtain ⟨hg14, hD⟩ := gd_s hD
      refine r_aald (t0 := 2) X I (by decide) rfl (eCr_3 g q _) hg14 dX6_wish_33 ?_
      refine lv_astore_n (lv' := [(3, .ref (q (5 + p1.toNatClampNeg))), (0, .ref (q 0)), (1, .int p1), (2, .int p2)]) hx hb dX6_wish_34 rfl hl (by decide) rfl (fun ls hl => ?_)
      refine lv_aload_n hx hb dX6_wish_35 rfl (lv_at hl 0 rfl) ?_
      refine g_Rider_want X I (kRi_of hg14) fl_X6_93 dX6_wish_36 ?_
      refine lv_istore (lv' := [(4, .int (σ (5 + p1.toNatClampNeg) 4)), (3, .ref (q (5 + p1.toNatClampNeg))), (0, .ref (q 0)), (1, .int p1), (2, .int p2)]) hx hb dX6_wish_39 hl (by decide) rfl (fun ls hl => ?_)
      refine lv_aload_n hx hb dX6_wish_41 rfl (lv_at hl 1 rfl) ?_
      refine lv_iload_n hx hb dX6_wish_42 rfl (lv_at hl 4 rfl) ?_
      refine p_Rider_want X I (kRi_of hg14) fl_X6_93 dX6_wish_43 (fun H locs I => ?_)
      refine lv_iload hx hb dX6_wish_46 (lv_at hl 0 rfl) ?_
      exact r_iret2 X I hD dX6_wish_48
    · have hD := ite_p hc9 hD
      refine lv_bipush (v := -2) hx hb dX6_wish_22 (by decide) ?_
      exact r_iret2 X I hD dX6_wish_24
  · have hD := ite_p hc5 hD
    refine lv_iconst (v := -1) hx hb dX6_wish_11 (by decide) ?_
    exact r_iret2 X I hD dX6_wish_12

/-! YearDeck.gain(II)I -/
def D_X6_gain (σ : St) (p1 : Int32) (p2 : Int32) : Option Int32 := (D_X2_hasRider σ p1).bind fun y4 => if y4 = 0 then some (-1 : Int32) else (D_X2_hasSection σ p2).bind fun y11 => if y11 = 0 then some (-1 : Int32) else gd (inb p1 4) (gd (inb p2 5) ((D_X4_yearsAbove σ (5 + p1.toNatClampNeg) (σ 2 p2.toNatClampNeg)).bind fun y23 => some y23))
set_option maxRecDepth 100000 in
set_option maxHeartbeats 4000000 in
theorem c_X6_gain (l : Launch) (g : Gh) (q : Nat → Nat) (sz : Nat) (σ : St) (p1 : Int32) (p2 : Int32) {rr : Int32} (hD : D_X6_gain σ p1 p2 = some rr) : Met l yX6_gain (wU yX6_gain cX6_gain 3 (some .int)) (rmD 1) (PQ g (eC g q) q 23 σ sz [.ref (q 0), .int p1, .int p2]) (QI g (eC g q) q 23 rr σ sz) 0 0 (AQ q 23 sz) := by
  refine met_of (Qc := QI g (eC g q) q 23 rr σ) (by decide) (Nat.le_of_ble_eq_true rfl) ?_
  intro p e s m below meth c ls X I hl
  have hx := X.1
  have hb := X.2.1
  have hl : lv_has ls 3 [(0, .ref (q 0)), (1, .int p1), (2, .int p2)] := hl
  unfold D_X6_gain at hD
  refine lv_aload_n hx hb dX6_gain_0 rfl (lv_at hl 0 rfl) ?_
  refine g_YearDeck_trip X I fl_X6_12 dX6_gain_1 ?_
  refine lv_iload_n hx hb dX6_gain_4 rfl (lv_at hl 1 rfl) ?_
  obtain ⟨y4, hy4, hD⟩ := bd_s hD
  refine r_calli (r_runV (As := [.int p1]) (rest := []) X I (c_X2_hasRider l g q _ σ p1 hy4) kv_X2_hasRider ml_X6_72 rfl (by decide) (eC_Ride g q _) ⟨Nat.le_of_ble_eq_true rfl, Nat.le_of_ble_eq_true rfl⟩ ⟨Nat.zero_le _, Nat.zero_le _⟩ rfl rfl hl.1 (Nat.le_of_ble_eq_true rfl) dX6_gain_5) I (fun H locs I => ?_)
  refine lv_if_eq (tgt := 22) hx hb dX6_gain_8 (by decide) (fun hc5 => ?_) (fun hc5 => ?_)
  · have hD := ite_p hc5 hD
    refine lv_iconst (v := -1) hx hb dX6_gain_22 (by decide) ?_
    exact r_iret X I hD dX6_gain_23
  · have hD := ite_n hc5 hD
    refine lv_aload_n hx hb dX6_gain_11 rfl (lv_at hl 0 rfl) ?_
    refine g_YearDeck_trip X I fl_X6_12 dX6_gain_12 ?_
    refine lv_iload_n hx hb dX6_gain_15 rfl (lv_at hl 2 rfl) ?_
    obtain ⟨y11, hy11, hD⟩ := bd_s hD
    refine r_calli (r_runV (As := [.int p2]) (rest := []) X I (c_X2_hasSection l g q _ σ p2 hy11) kv_X2_hasSection ml_X6_100 rfl (by decide) (eC_Ride g q _) ⟨Nat.le_of_ble_eq_true rfl, Nat.le_of_ble_eq_true rfl⟩ ⟨Nat.zero_le _, Nat.zero_le _⟩ rfl rfl hl.1 (Nat.le_of_ble_eq_true rfl) dX6_gain_16) I (fun H locs I => ?_)
    refine lv_if_ne (tgt := 24) hx hb dX6_gain_19 (by decide) (fun hc12 => ?_) (fun hc12 => ?_)
    · have hD := ite_n hc12 hD
      refine lv_aload_n hx hb dX6_gain_24 rfl (lv_at hl 0 rfl) ?_
      refine g_YearDeck_trip X I fl_X6_12 dX6_gain_25 ?_
      refine g_Ride_riders X I fl_X6_75 dX6_gain_28 ?_
      refine lv_iload_n hx hb dX6_gain_31 rfl (lv_at hl 1 rfl) ?_
      obtain ⟨hg17, hD⟩ := gd_s hD
      refine r_aald (t0 := 2) X I (by decide) rfl (eCr_3 g q _) hg17 dX6_gain_32 ?_
      refine lv_aload_n hx hb dX6_gain_33 rfl (lv_at hl 0 rfl) ?_
      refine g_YearDeck_trip X I fl_X6_12 dX6_gain_34 ?_
      refine g_Ride_steep X I fl_X6_103 dX6_gain_37 ?_
      refine lv_iload_n hx hb dX6_gain_40 rfl (lv_at hl 2 rfl) ?_
      obtain ⟨hg22, hD⟩ := gd_s hD
      refine r_iald X I (by decide) ((eCa_2 g q) _) hg22 dX6_gain_41 ?_
      obtain ⟨y23, hy23, hD⟩ := bd_s hD
      refine r_calli (r_runV (As := [.int (σ 2 p2.toNatClampNeg)]) (rest := []) X I (c_X4_yearsAbove l g q _ σ (5 + p1.toNatClampNeg) (σ 2 p2.toNatClampNeg) (kRi_of hg17) hy23) kv_X4_yearsAbove ml_X6_117 rfl (kRi_lt (kRi_of hg17)) (eC_Rider g q _ (kRi_of hg17)) ⟨Nat.le_of_ble_eq_true rfl, Nat.le_of_ble_eq_true rfl⟩ ⟨Nat.zero_le _, Nat.zero_le _⟩ rfl rfl hl.1 (Nat.le_of_ble_eq_true rfl) dX6_gain_42) I (fun H locs I => ?_)
      exact r_iret X I hD dX6_gain_45
    · have hD := ite_p hc12 hD
      refine lv_iconst (v := -1) hx hb dX6_gain_22 (by decide) ?_
      exact r_iret X I hD dX6_gain_23

/-! YearDeck.age(II)I -/
def D_X6_age (σ : St) (p1 : Int32) (p2 : Int32) : Option Int32 := (D_X2_hasRider σ p1).bind fun y4 => if y4 = 0 then some (-1 : Int32) else gd (inb p1 4) ((D_X4_owns σ (5 + p1.toNatClampNeg) p2).bind fun y14 => if y14 = 0 then some (-2 : Int32) else (D_X2_yearsOff σ (5 + p1.toNatClampNeg) p2).bind fun y22 => some y22)
set_option maxRecDepth 100000 in
set_option maxHeartbeats 4000000 in
theorem c_X6_age (l : Launch) (g : Gh) (q : Nat → Nat) (sz : Nat) (σ : St) (p1 : Int32) (p2 : Int32) {rr : Int32} (hD : D_X6_age σ p1 p2 = some rr) : Met l yX6_age (wU yX6_age cX6_age 4 (some .int)) (rmD 2) (PQ g (eC g q) q 23 σ sz [.ref (q 0), .int p1, .int p2]) (QI g (eC g q) q 23 rr σ sz) 0 0 (AQ q 23 sz) := by
  refine met_of (Qc := QI g (eC g q) q 23 rr σ) (by decide) (Nat.le_of_ble_eq_true rfl) ?_
  intro p e s m below meth c ls X I hl
  have hx := X.1
  have hb := X.2.1
  have hl : lv_has ls 4 [(0, .ref (q 0)), (1, .int p1), (2, .int p2)] := hl
  unfold D_X6_age at hD
  refine lv_aload_n hx hb dX6_age_0 rfl (lv_at hl 0 rfl) ?_
  refine g_YearDeck_trip X I fl_X6_12 dX6_age_1 ?_
  refine lv_iload_n hx hb dX6_age_4 rfl (lv_at hl 1 rfl) ?_
  obtain ⟨y4, hy4, hD⟩ := bd_s hD
  refine r_calli (r_runV (As := [.int p1]) (rest := []) X I (c_X2_hasRider l g q _ σ p1 hy4) kv_X2_hasRider ml_X6_72 rfl (by decide) (eC_Ride g q _) ⟨Nat.le_of_ble_eq_true rfl, Nat.le_of_ble_eq_true rfl⟩ ⟨Nat.zero_le _, Nat.zero_le _⟩ rfl rfl hl.1 (Nat.le_of_ble_eq_true rfl) dX6_age_5) I (fun H locs I => ?_)
  refine lv_if_ne (tgt := 13) hx hb dX6_age_8 (by decide) (fun hc5 => ?_) (fun hc5 => ?_)
  · have hD := ite_n hc5 hD
    refine lv_aload_n hx hb dX6_age_13 rfl (lv_at hl 0 rfl) ?_
    refine g_YearDeck_trip X I fl_X6_12 dX6_age_14 ?_
    refine g_Ride_riders X I fl_X6_75 dX6_age_17 ?_
    refine lv_iload_n hx hb dX6_age_20 rfl (lv_at hl 1 rfl) ?_
    obtain ⟨hg10, hD⟩ := gd_s hD
    refine r_aald (t0 := 2) X I (by decide) rfl (eCr_3 g q _) hg10 dX6_age_21 ?_
    refine lv_astore_n (lv' := [(3, .ref (q (5 + p1.toNatClampNeg))), (0, .ref (q 0)), (1, .int p1), (2, .int p2)]) hx hb dX6_age_22 rfl hl (by decide) rfl (fun ls hl => ?_)
    refine lv_aload_n hx hb dX6_age_23 rfl (lv_at hl 0 rfl) ?_
    refine lv_iload_n hx hb dX6_age_24 rfl (lv_at hl 3 rfl) ?_
    obtain ⟨y14, hy14, hD⟩ := bd_s hD
    refine r_calli (r_runV (As := [.int p2]) (rest := []) X I (c_X4_owns l g q _ σ (5 + p1.toNatClampNeg) p2 (kRi_of hg10) hy14) kv_X4_owns ml_X6_120 rfl (kRi_lt (kRi_of hg10)) (eC_Rider g q _ (kRi_of hg10)) ⟨Nat.le_of_ble_eq_true rfl, Nat.le_of_ble_eq_true rfl⟩ ⟨Nat.zero_le _, Nat.zero_le _⟩ rfl rfl hl.1 (Nat.le_of_ble_eq_true rfl) dX6_age_25) I (fun H locs I => ?_)
    refine lv_if_eq (tgt := 43) hx hb dX6_age_28 (by decide) (fun hc15 => ?_) (fun hc15 => ?_)
    · have hD := ite_p hc15 hD
      refine lv_bipush (v := -2) hx hb dX6_age_43 (by decide) ?_
      exact r_iret X I hD dX6_age_45
    · have hD := ite_n hc15 hD
      refine lv_aload_n hx hb dX6_age_31 rfl (lv_at hl 1 rfl) ?_
      refine g_YearDeck_trip X I fl_X6_12 dX6_age_32 ?_
      refine lv_aload_n hx hb dX6_age_35 rfl (lv_at hl 0 rfl) ?_
      refine lv_iload_n hx hb dX6_age_36 rfl (lv_at hl 3 rfl) ?_
      obtain ⟨y22, hy22, hD⟩ := bd_s hD
      refine r_calli (r_runV (As := [.ref (q (5 + p1.toNatClampNeg)), .int p2]) (rest := []) X I (c_X2_yearsOff l g q _ σ (5 + p1.toNatClampNeg) p2 (kRi_of hg10) hy22) kv_X2_yearsOff ml_X6_123 rfl (by decide) (eC_Ride g q _) ⟨Nat.le_of_ble_eq_true rfl, Nat.le_of_ble_eq_true rfl⟩ ⟨Nat.zero_le _, Nat.zero_le _⟩ rfl rfl hl.1 (Nat.le_of_ble_eq_true rfl) dX6_age_37) I (fun H locs I => ?_)
      refine lv_goto (tgt := 45) hx hb dX6_age_40 (by decide) ?_
      exact r_iret X I hD dX6_age_45
  · have hD := ite_p hc5 hD
    refine lv_iconst (v := -1) hx hb dX6_age_11 (by decide) ?_
    exact r_iret X I hD dX6_age_12

/-! YearDeck.isSittingQuestion(I)Z -/
def D_X6_isSittingQuestion_21 (σ : St) (v0 : Int32) : Option Int32 := if v0 < (20 : Int32) then some (0 : Int32) else if (24 : Int32) ≤ v0 then some (0 : Int32) else some (1 : Int32)
set_option maxRecDepth 100000 in
set_option maxHeartbeats 4000000 in
theorem w_X6_isSittingQuestion_21 {p : Program} {l : Launch} {e : Env} {s : State} {m : MethodId} {args : Array Value} {below : List Frame} {meth : Method} {c : Code} (g : Gh) (q : Nat → Nat) (X : MX p s m args meth c cX6_isSittingQuestion 1 (some .boolean) RX6) {rr : Int32} (σ : St)  (v0 : Int32) (hD : D_X6_isSittingQuestion_21 σ v0 = some rr) (H : Heap) (locs : List Loc) (ls : Array Slot) (I : IC g q s σ H locs) (hl : lv_has ls 1 [(0, .int v0)]) : W p l e (rmD 0) s m args below meth c H locs 0 0 (MQ below (QI g (eC g q) q 23 rr σ s.heap.size) args s 0 0 (AQ q 23 s.heap.size)) (F0 m 21 ls []) := by
  have hx := X.1
  have hb := X.2.1
  unfold D_X6_isSittingQuestion_21 at hD
  refine lv_iload_n hx hb dX6_isSittingQuestion_21 rfl (lv_at hl 0 rfl) ?_
  refine lv_bipush (v := 20) hx hb dX6_isSittingQuestion_22 (by decide) ?_
  refine lv_icmp_lt (tgt := 37) hx hb dX6_isSittingQuestion_24 (by decide) (fun hc20 => ?_) (fun hc20 => ?_)
  · have hD := ite_p hc20 hD
    refine lv_iconst (v := 0) hx hb dX6_isSittingQuestion_37 (by decide) ?_
    exact r_zret X I hD rfl dX6_isSittingQuestion_38
  · have hD := ite_n hc20 hD
    refine lv_iload_n hx hb dX6_isSittingQuestion_27 rfl (lv_at hl 0 rfl) ?_
    refine lv_bipush (v := 24) hx hb dX6_isSittingQuestion_28 (by decide) ?_
    refine lv_icmp_ge (tgt := 37) hx hb dX6_isSittingQuestion_30 (by decide) (fun hc25 => ?_) (fun hc25 => ?_)
    · have hD := ite_p hc25 hD
      refine lv_iconst (v := 0) hx hb dX6_isSittingQuestion_37 (by decide) ?_
      exact r_zret X I hD rfl dX6_isSittingQuestion_38
    · have hD := ite_n hc25 hD
      refine lv_iconst (v := 1) hx hb dX6_isSittingQuestion_33 (by decide) ?_
      refine lv_goto (tgt := 38) hx hb dX6_isSittingQuestion_34 (by decide) ?_
      exact r_zret X I hD rfl dX6_isSittingQuestion_38
def D_X6_isSittingQuestion_9 (σ : St) (v0 : Int32) : Option Int32 := if v0 < (10 : Int32) then D_X6_isSittingQuestion_21 σ v0 else if v0 < (15 : Int32) then some (1 : Int32) else D_X6_isSittingQuestion_21 σ v0
set_option maxRecDepth 100000 in
set_option maxHeartbeats 4000000 in
theorem w_X6_isSittingQuestion_9 {p : Program} {l : Launch} {e : Env} {s : State} {m : MethodId} {args : Array Value} {below : List Frame} {meth : Method} {c : Code} (g : Gh) (q : Nat → Nat) (X : MX p s m args meth c cX6_isSittingQuestion 1 (some .boolean) RX6) {rr : Int32} (σ : St)  (v0 : Int32) (hD : D_X6_isSittingQuestion_9 σ v0 = some rr) (H : Heap) (locs : List Loc) (ls : Array Slot) (I : IC g q s σ H locs) (hl : lv_has ls 1 [(0, .int v0)]) : W p l e (rmD 0) s m args below meth c H locs 0 0 (MQ below (QI g (eC g q) q 23 rr σ s.heap.size) args s 0 0 (AQ q 23 s.heap.size)) (F0 m 9 ls []) := by
  have hx := X.1
  have hb := X.2.1
  unfold D_X6_isSittingQuestion_9 at hD
  refine lv_iload_n hx hb dX6_isSittingQuestion_9 rfl (lv_at hl 0 rfl) ?_
  refine lv_bipush (v := 10) hx hb dX6_isSittingQuestion_10 (by decide) ?_
  refine lv_icmp_lt (tgt := 21) hx hb dX6_isSittingQuestion_12 (by decide) (fun hc11 => ?_) (fun hc11 => ?_)
  · have hD := ite_p hc11 hD
    exact w_X6_isSittingQuestion_21 g q X σ v0 hD _ _ _ I (lv_sub hl [0] rfl)
  · have hD := ite_n hc11 hD
    refine lv_iload_n hx hb dX6_isSittingQuestion_15 rfl (lv_at hl 0 rfl) ?_
    refine lv_bipush (v := 15) hx hb dX6_isSittingQuestion_16 (by decide) ?_
    refine lv_icmp_lt (tgt := 33) hx hb dX6_isSittingQuestion_18 (by decide) (fun hc14 => ?_) (fun hc14 => ?_)
    · have hD := ite_p hc14 hD
      refine lv_iconst (v := 1) hx hb dX6_isSittingQuestion_33 (by decide) ?_
      refine lv_goto (tgt := 38) hx hb dX6_isSittingQuestion_34 (by decide) ?_
      exact r_zret X I hD rfl dX6_isSittingQuestion_38
    · have hD := ite_n hc14 hD
      exact w_X6_isSittingQuestion_21 g q X σ v0 hD _ _ _ I (lv_sub hl [0] rfl)
def D_X6_isSittingQuestion (σ : St) (p0 : Int32) : Option Int32 := if p0 < 0 then D_X6_isSittingQuestion_9 σ p0 else if p0 ≤ (3 : Int32) then some (1 : Int32) else D_X6_isSittingQuestion_9 σ p0
set_option maxRecDepth 100000 in
set_option maxHeartbeats 4000000 in
theorem c_X6_isSittingQuestion (l : Launch) (g : Gh) (q : Nat → Nat) (sz : Nat) (σ : St) (p0 : Int32) {rr : Int32} (hD : D_X6_isSittingQuestion σ p0 = some rr) : Met l yX6_isSittingQuestion (wU yX6_isSittingQuestion cX6_isSittingQuestion 1 (some .boolean)) (rmD 0) (PQ g (eC g q) q 23 σ sz [.int p0]) (QI g (eC g q) q 23 rr σ sz) 0 0 (AQ q 23 sz) := by
  refine met_of (Qc := QI g (eC g q) q 23 rr σ) (by decide) (Nat.le_of_ble_eq_true rfl) ?_
  intro p e s m below meth c ls X I hl
  have hx := X.1
  have hb := X.2.1
  have hl : lv_has ls 1 [(0, .int p0)] := hl
  unfold D_X6_isSittingQuestion at hD
  refine lv_iload_n hx hb dX6_isSittingQuestion_0 rfl (lv_at hl 0 rfl) ?_
  refine lv_if_lt (tgt := 9) hx hb dX6_isSittingQuestion_1 (by decide) (fun hc2 => ?_) (fun hc2 => ?_)
  · have hD := ite_p hc2 hD
    exact w_X6_isSittingQuestion_9 g q X σ p0 hD _ _ _ I (lv_sub hl [0] rfl)
  · have hD := ite_n hc2 hD
    refine lv_iload_n hx hb dX6_isSittingQuestion_4 rfl (lv_at hl 0 rfl) ?_
    refine lv_iconst (v := 3) hx hb dX6_isSittingQuestion_5 (by decide) ?_
    refine lv_icmp_le (tgt := 33) hx hb dX6_isSittingQuestion_6 (by decide) (fun hc5 => ?_) (fun hc5 => ?_)
    · have hD := ite_p hc5 hD
      refine lv_iconst (v := 1) hx hb dX6_isSittingQuestion_33 (by decide) ?_
      refine lv_goto (tgt := 38) hx hb dX6_isSittingQuestion_34 (by decide) ?_
      exact r_zret X I hD rfl dX6_isSittingQuestion_38
    · have hD := ite_n hc5 hD
      exact w_X6_isSittingQuestion_9 g q X σ p0 hD _ _ _ I (lv_sub hl [0] rfl)

/-! YearDeck.takeSitting(LYearDeck$Sheet;I)Z -/
def D_X6_takeSitting_2b (σ : St) (rc2 : St → Int32 → Option (Int32 × St)) (v1 : Nat) (v2 : Int32) (v3 : Int32) : Option (Int32 × St) := if (σ 1 5) ≤ v3 then some ((1 : Int32), σ) else (D_X5_at σ v1 (v2 + v3)).bind fun y14 => gd (inb v3 4) ((D_X4_owns σ (5 + v3.toNatClampNeg) y14).bind fun y22 => if y22 = 0 then some ((0 : Int32), σ) else gd (inb v3 4) (rc2 (up2 σ 22 v3.toNatClampNeg y14) (v3 + (1 : Int32))))
set_option maxRecDepth 100000 in
set_option maxHeartbeats 4000000 in
theorem w_X6_takeSitting_2b {p : Program} {l : Launch} {e : Env} {s : State} {m : MethodId} {args : Array Value} {below : List Frame} {meth : Method} {c : Code} (g : Gh) (q : Nat → Nat) (X : MX p s m args meth c cX6_takeSitting 5 (some .boolean) RX6) {rr : (Int32 × St)} (σ : St)  (v1 : Nat) (v2 : Int32) (v3 : Int32) (kv1 : kSh v1) (rc2 : St → Int32 → Option (Int32 × St)) (hrc2 : ∀ (σ' : St) (v3' : Int32), rc2 σ' v3' = some rr → ∀ (H : Heap) (locs : List Loc) (ls : Array Slot), IC g q s σ' H locs → lv_has ls 5 [(0, .ref (q 0)), (1, .ref (q v1)), (2, .int v2), (3, .int v3')] → W p l e (rmD 2) s m args below meth c H locs 0 0 (MQ below (QI g (eC g q) q 23 rr.1 rr.2 s.heap.size) args s 0 0 (AQ q 23 s.heap.size)) (F0 m 2 ls [])) (hD : D_X6_takeSitting_2b σ rc2 v1 v2 v3 = some rr) (H : Heap) (locs : List Loc) (ls : Array Slot) (I : IC g q s σ H locs) (hl : lv_has ls 5 [(0, .ref (q 0)), (1, .ref (q v1)), (2, .int v2), (3, .int v3)]) : W p l e (rmD 2) s m args below meth c H locs 0 0 (MQ below (QI g (eC g q) q 23 rr.1 rr.2 s.heap.size) args s 0 0 (AQ q 23 s.heap.size)) (F0 m 2 ls []) := by
  have hx := X.1
  have hb := X.2.1
  unfold D_X6_takeSitting_2b at hD
  refine lv_iload_n hx hb dX6_takeSitting_2 rfl (lv_at hl 3 rfl) ?_
  refine lv_aload_n hx hb dX6_takeSitting_3 rfl (lv_at hl 0 rfl) ?_
  refine g_YearDeck_trip X I fl_X6_12 dX6_takeSitting_4 ?_
  refine g_Ride_count X I fl_X6_71 dX6_takeSitting_7 ?_
  refine lv_icmp_ge (tgt := 55) hx hb dX6_takeSitting_10 (by decide) (fun hc7 => ?_) (fun hc7 => ?_)
  · have hD := ite_p hc7 hD
    refine lv_iconst (v := 1) hx hb dX6_takeSitting_55 (by decide) ?_
    exact r_zret2 X I hD rfl dX6_takeSitting_56
  · have hD := ite_n hc7 hD
    refine lv_aload_n hx hb dX6_takeSitting_13 rfl (lv_at hl 1 rfl) ?_
    refine lv_iload_n hx hb dX6_takeSitting_14 rfl (lv_at hl 2 rfl) ?_
    refine lv_iload_n hx hb dX6_takeSitting_15 rfl (lv_at hl 3 rfl) ?_
    refine lv_iadd hx hb dX6_takeSitting_16 ?_
    obtain ⟨y14, hy14, hD⟩ := bd_s hD
    refine r_calli (r_runV (As := [.int (v2 + v3)]) (rest := []) X I (c_X5_at l g q _ σ v1 (v2 + v3) kv1 hy14) kv_X5_at ml_X6_137 rfl (kSh_lt kv1) (eC_Sheet g q _ kv1) ⟨Nat.le_of_ble_eq_true rfl, Nat.le_of_ble_eq_true rfl⟩ ⟨Nat.zero_le _, Nat.zero_le _⟩ rfl rfl hl.1 (Nat.le_of_ble_eq_true rfl) dX6_takeSitting_17) I (fun H locs I => ?_)
    refine lv_istore (lv' := [(4, .int y14), (0, .ref (q 0)), (1, .ref (q v1)), (2, .int v2), (3, .int v3)]) hx hb dX6_takeSitting_20 hl (by decide) rfl (fun ls hl => ?_)
    refine lv_aload_n hx hb dX6_takeSitting_22 rfl (lv_at hl 1 rfl) ?_
    refine g_YearDeck_trip X I fl_X6_12 dX6_takeSitting_23 ?_
    refine g_Ride_riders X I fl_X6_75 dX6_takeSitting_26 ?_
    refine lv_iload_n hx hb dX6_takeSitting_29 rfl (lv_at hl 4 rfl) ?_
    obtain ⟨hg20, hD⟩ := gd_s hD
    refine r_aald (t0 := 2) X I (by decide) rfl (eCr_3 g q _) hg20 dX6_takeSitting_30 ?_
    refine lv_iload hx hb dX6_takeSitting_31 (lv_at hl 0 rfl) ?_
    obtain ⟨y22, hy22, hD⟩ := bd_s hD
    refine r_calli (r_runV (As := [.int y14]) (rest := []) X I (c_X4_owns l g q _ σ (5 + v3.toNatClampNeg) y14 (kRi_of hg20) hy22) kv_X4_owns ml_X6_120 rfl (kRi_lt (kRi_of hg20)) (eC_Rider g q _ (kRi_of hg20)) ⟨Nat.le_of_ble_eq_true rfl, Nat.le_of_ble_eq_true rfl⟩ ⟨Nat.zero_le _, Nat.zero_le _⟩ rfl rfl hl.1 (Nat.le_of_ble_eq_true rfl) dX6_takeSitting_33) I (fun H locs I => ?_)
    refine lv_if_ne (tgt := 41) hx hb dX6_takeSitting_36 (by decide) (fun hc23 => ?_) (fun hc23 => ?_)
    · have hD := ite_n hc23 hD
      refine lv_aload_n hx hb dX6_takeSitting_41 rfl (lv_at hl 1 rfl) ?_
      refine g_YearDeck_sitting X I fl_X6_31 dX6_takeSitting_42 ?_
      refine lv_iload_n hx hb dX6_takeSitting_45 rfl (lv_at hl 4 rfl) ?_
      refine lv_iload hx hb dX6_takeSitting_46 (lv_at hl 0 rfl) ?_
      obtain ⟨hg28, hD⟩ := gd_s hD
      refine r_iast (eC_loc g q) X I (by decide) (eCa_22 g q) hg28 dX6_takeSitting_48 (fun H locs I => ?_)
      refine lv_iinc (v := v3 + (1 : Int32)) (lv' := [(3, .int (v3 + (1 : Int32))), (4, .int y14), (0, .ref (q 0)), (1, .ref (q v1)), (2, .int v2)]) hx hb dX6_takeSitting_49 hl (k := 4) rfl rfl (by decide) rfl (fun ls hl => ?_)
      refine lv_goto (tgt := 2) hx hb dX6_takeSitting_52 (by decide) ?_
      exact hrc2 (up2 σ 22 v3.toNatClampNeg y14) (v3 + (1 : Int32)) hD _ _ _ I (lv_sub hl [2, 3, 4, 0] rfl)
    · have hD := ite_p hc23 hD
      refine lv_iconst (v := 0) hx hb dX6_takeSitting_39 (by decide) ?_
      exact r_zret2 X I hD rfl dX6_takeSitting_40
def D_X6_takeSitting_2  (v1 : Nat) (v2 : Int32) : Nat → St → Int32 → Option (Int32 × St)
  | 0 => fun _ _ => none
  | n + 1 => fun σ v3 => D_X6_takeSitting_2b σ (D_X6_takeSitting_2 v1 v2 n) v1 v2 v3
set_option maxRecDepth 100000 in
set_option maxHeartbeats 4000000 in
theorem w_X6_takeSitting_2 {p : Program} {l : Launch} {e : Env} {s : State} {m : MethodId} {args : Array Value} {below : List Frame} {meth : Method} {c : Code} (g : Gh) (q : Nat → Nat) (X : MX p s m args meth c cX6_takeSitting 5 (some .boolean) RX6) {rr : (Int32 × St)}  (v1 : Nat) (v2 : Int32) (kv1 : kSh v1) : ∀ (n : Nat) (σ : St) (v3 : Int32), D_X6_takeSitting_2 v1 v2 n σ v3 = some rr → ∀ (H : Heap) (locs : List Loc) (ls : Array Slot), IC g q s σ H locs → lv_has ls 5 [(0, .ref (q 0)), (1, .ref (q v1)), (2, .int v2), (3, .int v3)] → W p l e (rmD 2) s m args below meth c H locs 0 0 (MQ below (QI g (eC g q) q 23 rr.1 rr.2 s.heap.size) args s 0 0 (AQ q 23 s.heap.size)) (F0 m 2 ls []) := by
  intro n
  induction n with
  | zero =>
    intro σ v3 hD H locs ls I hl
    cases hD
  | succ n ih =>
    intro σ v3 hD H locs ls I hl
    exact w_X6_takeSitting_2b g q X σ v1 v2 v3 kv1 _ ih hD H locs ls I hl
def D_X6_takeSitting (σ : St) (p1 : Nat) (p2 : Int32) : Option (Int32 × St) := D_X6_takeSitting_2 p1 p2 FU σ (0 : Int32)
set_option maxRecDepth 100000 in
set_option maxHeartbeats 4000000 in
theorem c_X6_takeSitting (l : Launch) (g : Gh) (q : Nat → Nat) (sz : Nat) (σ : St) (p1 : Nat) (p2 : Int32) (kp1 : kSh p1) {rr : (Int32 × St)} (hD : D_X6_takeSitting σ p1 p2 = some rr) : Met l yX6_takeSitting (wU yX6_takeSitting cX6_takeSitting 5 (some .boolean)) (rmD 2) (PQ g (eC g q) q 23 σ sz [.ref (q 0), .ref (q p1), .int p2]) (QI g (eC g q) q 23 rr.1 rr.2 sz) 0 0 (AQ q 23 sz) := by
  refine met_of (Qc := QI g (eC g q) q 23 rr.1 rr.2) (by decide) (Nat.le_of_ble_eq_true rfl) ?_
  intro p e s m below meth c ls X I hl
  have hx := X.1
  have hb := X.2.1
  have hl : lv_has ls 5 [(0, .ref (q 0)), (1, .ref (q p1)), (2, .int p2)] := hl
  unfold D_X6_takeSitting at hD
  refine lv_iconst (v := 0) hx hb dX6_takeSitting_0 (by decide) ?_
  refine lv_istore_n (lv' := [(3, .int (0 : Int32)), (0, .ref (q 0)), (1, .ref (q p1)), (2, .int p2)]) hx hb dX6_takeSitting_1 rfl hl (by decide) rfl (fun ls hl => ?_)
  exact w_X6_takeSitting_2 g q X p1 p2 kp1 FU σ (0 : Int32) hD _ _ _ I (lv_sub hl [1, 2, 3, 0] rfl)

/-! YearDeck.eldest()I -/
def D_X6_eldest_53 (σ : St) (rc7 : Int32 → Int32 → Int32 → Option Int32) (v1 : Int32) (v2 : Int32) (v3 : Int32) : Option Int32 := rc7 v1 v2 (v3 + (1 : Int32))
set_option maxRecDepth 100000 in
set_option maxHeartbeats 4000000 in
theorem w_X6_eldest_53 {p : Program} {l : Launch} {e : Env} {s : State} {m : MethodId} {args : Array Value} {below : List Frame} {meth : Method} {c : Code} (g : Gh) (q : Nat → Nat) (X : MX p s m args meth c cX6_eldest 5 (some .int) RX6) {rr : Int32} (σ : St)  (v1 : Int32) (v2 : Int32) (v3 : Int32) (rc7 : Int32 → Int32 → Int32 → Option Int32) (hrc7 : ∀ (v1' : Int32) (v2' : Int32) (v3' : Int32), rc7 v1' v2' v3' = some rr → ∀ (H : Heap) (locs : List Loc) (ls : Array Slot), IC g q s σ H locs → lv_has ls 5 [(0, .ref (q 0)), (1, .int v1'), (2, .int v2'), (3, .int v3')] → W p l e (rmD 2) s m args below meth c H locs 0 0 (MQ below (QI g (eC g q) q 23 rr σ s.heap.size) args s 0 0 (AQ q 23 s.heap.size)) (F0 m 7 ls [])) (hD : D_X6_eldest_53 σ rc7 v1 v2 v3 = some rr) (H : Heap) (locs : List Loc) (ls : Array Slot) (I : IC g q s σ H locs) (hl : lv_has ls 5 [(0, .ref (q 0)), (1, .int v1), (2, .int v2), (3, .int v3)]) : W p l e (rmD 2) s m args below meth c H locs 0 0 (MQ below (QI g (eC g q) q 23 rr σ s.heap.size) args s 0 0 (AQ q 23 s.heap.size)) (F0 m 53 ls []) := by
  have hx := X.1
  have hb := X.2.1
  unfold D_X6_eldest_53 at hD
  refine lv_iinc (v := v3 + (1 : Int32)) (lv' := [(3, .int (v3 + (1 : Int32))), (0, .ref (q 0)), (1, .int v1), (2, .int v2)]) hx hb dX6_eldest_53 hl (k := 3) rfl rfl (by decide) rfl (fun ls hl => ?_)
  refine lv_goto (tgt := 7) hx hb dX6_eldest_56 (by decide) ?_
  exact hrc7 v1 v2 (v3 + (1 : Int32)) hD _ _ _ I (lv_sub hl [1, 2, 3, 0] rfl)
def D_X6_eldest_7b (σ : St) (rc7 : Int32 → Int32 → Int32 → Option Int32) (v1 : Int32) (v2 : Int32) (v3 : Int32) : Option Int32 := if (σ 1 5) ≤ v3 then some v1 else gd (inb v3 4) (gd (inb v3 4) ((D_X2_yearsOff σ (5 + v3.toNatClampNeg) (σ 22 v3.toNatClampNeg)).bind fun y25 => if y25 ≤ v2 then D_X6_eldest_53 σ rc7 v1 v2 v3 else D_X6_eldest_53 σ rc7 v3 y25 v3))
set_option maxRecDepth 100000 in
set_option maxHeartbeats 4000000 in
theorem w_X6_eldest_7b {p : Program} {l : Launch} {e : Env} {s : State} {m : MethodId} {args : Array Value} {below : List Frame} {meth : Method} {c : Code} (g : Gh) (q : Nat → Nat) (X : MX p s m args meth c cX6_eldest 5 (some .int) RX6) {rr : Int32} (σ : St)  (v1 : Int32) (v2 : Int32) (v3 : Int32) (rc7 : Int32 → Int32 → Int32 → Option Int32) (hrc7 : ∀ (v1' : Int32) (v2' : Int32) (v3' : Int32), rc7 v1' v2' v3' = some rr → ∀ (H : Heap) (locs : List Loc) (ls : Array Slot), IC g q s σ H locs → lv_has ls 5 [(0, .ref (q 0)), (1, .int v1'), (2, .int v2'), (3, .int v3')] → W p l e (rmD 2) s m args below meth c H locs 0 0 (MQ below (QI g (eC g q) q 23 rr σ s.heap.size) args s 0 0 (AQ q 23 s.heap.size)) (F0 m 7 ls [])) (hD : D_X6_eldest_7b σ rc7 v1 v2 v3 = some rr) (H : Heap) (locs : List Loc) (ls : Array Slot) (I : IC g q s σ H locs) (hl : lv_has ls 5 [(0, .ref (q 0)), (1, .int v1), (2, .int v2), (3, .int v3)]) : W p l e (rmD 2) s m args below meth c H locs 0 0 (MQ below (QI g (eC g q) q 23 rr σ s.heap.size) args s 0 0 (AQ q 23 s.heap.size)) (F0 m 7 ls []) := by
  have hx := X.1
  have hb := X.2.1
  unfold D_X6_eldest_7b at hD
  refine lv_iload_n hx hb dX6_eldest_7 rfl (lv_at hl 3 rfl) ?_
  refine lv_aload_n hx hb dX6_eldest_8 rfl (lv_at hl 0 rfl) ?_
  refine g_YearDeck_trip X I fl_X6_12 dX6_eldest_9 ?_
  refine g_Ride_count X I fl_X6_71 dX6_eldest_12 ?_
  refine lv_icmp_ge (tgt := 59) hx hb dX6_eldest_15 (by decide) (fun hc11 => ?_) (fun hc11 => ?_)
  · have hD := ite_p hc11 hD
    refine lv_iload_n hx hb dX6_eldest_59 rfl (lv_at hl 1 rfl) ?_
    exact r_iret X I hD dX6_eldest_60
  · have hD := ite_n hc11 hD
    refine lv_aload_n hx hb dX6_eldest_18 rfl (lv_at hl 0 rfl) ?_
    refine g_YearDeck_trip X I fl_X6_12 dX6_eldest_19 ?_
    refine lv_aload_n hx hb dX6_eldest_22 rfl (lv_at hl 0 rfl) ?_
    refine g_YearDeck_trip X I fl_X6_12 dX6_eldest_23 ?_
    refine g_Ride_riders X I fl_X6_75 dX6_eldest_26 ?_
    refine lv_iload_n hx hb dX6_eldest_29 rfl (lv_at hl 3 rfl) ?_
    obtain ⟨hg20, hD⟩ := gd_s hD
    refine r_aald (t0 := 2) X I (by decide) rfl (eCr_3 g q _) hg20 dX6_eldest_30 ?_
    refine lv_aload_n hx hb dX6_eldest_31 rfl (lv_at hl 0 rfl) ?_
    refine g_YearDeck_sitting X I fl_X6_31 dX6_eldest_32 ?_
    refine lv_iload_n hx hb dX6_eldest_35 rfl (lv_at hl 3 rfl) ?_
    obtain ⟨hg24, hD⟩ := gd_s hD
    refine r_iald X I (by decide) ((eCa_22 g q) _) hg24 dX6_eldest_36 ?_
    obtain ⟨y25, hy25, hD⟩ := bd_s hD
    refine r_calli (r_runV (As := [.ref (q (5 + v3.toNatClampNeg)), .int (σ 22 v3.toNatClampNeg)]) (rest := []) X I (c_X2_yearsOff l g q _ σ (5 + v3.toNatClampNeg) (σ 22 v3.toNatClampNeg) (kRi_of hg20) hy25) kv_X2_yearsOff ml_X6_123 rfl (by decide) (eC_Ride g q _) ⟨Nat.le_of_ble_eq_true rfl, Nat.le_of_ble_eq_true rfl⟩ ⟨Nat.zero_le _, Nat.zero_le _⟩ rfl rfl hl.1 (Nat.le_of_ble_eq_true rfl) dX6_eldest_37) I (fun H locs I => ?_)
    refine lv_istore (lv' := [(4, .int y25), (0, .ref (q 0)), (1, .int v1), (2, .int v2), (3, .int v3)]) hx hb dX6_eldest_40 hl (by decide) rfl (fun ls hl => ?_)
    refine lv_iload hx hb dX6_eldest_42 (lv_at hl 0 rfl) ?_
    refine lv_iload_n hx hb dX6_eldest_44 rfl (lv_at hl 3 rfl) ?_
    refine lv_icmp_le (tgt := 53) hx hb dX6_eldest_45 (by decide) (fun hc29 => ?_) (fun hc29 => ?_)
    · have hD := ite_p hc29 hD
      exact w_X6_eldest_53 g q X σ v1 v2 v3 rc7 hrc7 hD _ _ _ I (lv_sub hl [1, 2, 3, 4] rfl)
    · have hD := ite_n hc29 hD
      refine lv_iload_n hx hb dX6_eldest_48 rfl (lv_at hl 4 rfl) ?_
      refine lv_istore_n (lv' := [(1, .int v3), (4, .int y25), (0, .ref (q 0)), (2, .int v2), (3, .int v3)]) hx hb dX6_eldest_49 rfl hl (by decide) rfl (fun ls hl => ?_)
      refine lv_iload hx hb dX6_eldest_50 (lv_at hl 1 rfl) ?_
      refine lv_istore_n (lv' := [(2, .int y25), (1, .int v3), (4, .int y25), (0, .ref (q 0)), (3, .int v3)]) hx hb dX6_eldest_52 rfl hl (by decide) rfl (fun ls hl => ?_)
      exact w_X6_eldest_53 g q X σ v3 y25 v3 rc7 hrc7 hD _ _ _ I (lv_sub hl [3, 1, 0, 4] rfl)
def D_X6_eldest_7 (σ : St) : Nat → Int32 → Int32 → Int32 → Option Int32
  | 0 => fun _ _ _ => none
  | n + 1 => fun v1 v2 v3 => D_X6_eldest_7b σ (D_X6_eldest_7 σ n) v1 v2 v3
set_option maxRecDepth 100000 in
set_option maxHeartbeats 4000000 in
theorem w_X6_eldest_7 {p : Program} {l : Launch} {e : Env} {s : State} {m : MethodId} {args : Array Value} {below : List Frame} {meth : Method} {c : Code} (g : Gh) (q : Nat → Nat) (X : MX p s m args meth c cX6_eldest 5 (some .int) RX6) {rr : Int32} (σ : St)  : ∀ (n : Nat) (v1 : Int32) (v2 : Int32) (v3 : Int32), D_X6_eldest_7 σ n v1 v2 v3 = some rr → ∀ (H : Heap) (locs : List Loc) (ls : Array Slot), IC g q s σ H locs → lv_has ls 5 [(0, .ref (q 0)), (1, .int v1), (2, .int v2), (3, .int v3)] → W p l e (rmD 2) s m args below meth c H locs 0 0 (MQ below (QI g (eC g q) q 23 rr σ s.heap.size) args s 0 0 (AQ q 23 s.heap.size)) (F0 m 7 ls []) := by
  intro n
  induction n with
  | zero =>
    intro v1 v2 v3 hD H locs ls I hl
    cases hD
  | succ n ih =>
    intro v1 v2 v3 hD H locs ls I hl
    exact w_X6_eldest_7b g q X σ v1 v2 v3 _ ih hD H locs ls I hl
def D_X6_eldest (σ : St) : Option Int32 := D_X6_eldest_7 σ FU (0 : Int32) (-9 : Int32) (0 : Int32)
set_option maxRecDepth 100000 in
set_option maxHeartbeats 4000000 in
theorem c_X6_eldest (l : Launch) (g : Gh) (q : Nat → Nat) (sz : Nat) (σ : St) {rr : Int32} (hD : D_X6_eldest σ = some rr) : Met l yX6_eldest (wU yX6_eldest cX6_eldest 5 (some .int)) (rmD 2) (PQ g (eC g q) q 23 σ sz [.ref (q 0)]) (QI g (eC g q) q 23 rr σ sz) 0 0 (AQ q 23 sz) := by
  refine met_of (Qc := QI g (eC g q) q 23 rr σ) (by decide) (Nat.le_of_ble_eq_true rfl) ?_
  intro p e s m below meth c ls X I hl
  have hx := X.1
  have hb := X.2.1
  have hl : lv_has ls 5 [(0, .ref (q 0))] := hl
  unfold D_X6_eldest at hD
  refine lv_iconst (v := 0) hx hb dX6_eldest_0 (by decide) ?_
  refine lv_istore_n (lv' := [(1, .int (0 : Int32)), (0, .ref (q 0))]) hx hb dX6_eldest_1 rfl hl (by decide) rfl (fun ls hl => ?_)
  refine lv_bipush (v := -9) hx hb dX6_eldest_2 (by decide) ?_
  refine lv_istore_n (lv' := [(2, .int (-9 : Int32)), (1, .int (0 : Int32)), (0, .ref (q 0))]) hx hb dX6_eldest_4 rfl hl (by decide) rfl (fun ls hl => ?_)
  refine lv_iconst (v := 0) hx hb dX6_eldest_5 (by decide) ?_
  refine lv_istore_n (lv' := [(3, .int (0 : Int32)), (2, .int (-9 : Int32)), (1, .int (0 : Int32)), (0, .ref (q 0))]) hx hb dX6_eldest_6 rfl hl (by decide) rfl (fun ls hl => ?_)
  exact w_X6_eldest_7 g q X σ FU (0 : Int32) (-9 : Int32) (0 : Int32) hD _ _ _ I (lv_sub hl [3, 2, 1, 0] rfl)

/-! YearDeck.rightOnes()I -/
def D_X6_rightOnes_46 (σ : St) (rc4 : Int32 → Int32 → Option Int32) (v1 : Int32) (v2 : Int32) : Option Int32 := rc4 v1 (v2 + (1 : Int32))
set_option maxRecDepth 100000 in
set_option maxHeartbeats 4000000 in
theorem w_X6_rightOnes_46 {p : Program} {l : Launch} {e : Env} {s : State} {m : MethodId} {args : Array Value} {below : List Frame} {meth : Method} {c : Code} (g : Gh) (q : Nat → Nat) (X : MX p s m args meth c cX6_rightOnes 3 (some .int) RX6) {rr : Int32} (σ : St)  (v1 : Int32) (v2 : Int32) (rc4 : Int32 → Int32 → Option Int32) (hrc4 : ∀ (v1' : Int32) (v2' : Int32), rc4 v1' v2' = some rr → ∀ (H : Heap) (locs : List Loc) (ls : Array Slot), IC g q s σ H locs → lv_has ls 3 [(0, .ref (q 0)), (1, .int v1'), (2, .int v2')] → W p l e (rmD 3) s m args below meth c H locs 0 0 (MQ below (QI g (eC g q) q 23 rr σ s.heap.size) args s 0 0 (AQ q 23 s.heap.size)) (F0 m 4 ls [])) (hD : D_X6_rightOnes_46 σ rc4 v1 v2 = some rr) (H : Heap) (locs : List Loc) (ls : Array Slot) (I : IC g q s σ H locs) (hl : lv_has ls 3 [(0, .ref (q 0)), (1, .int v1), (2, .int v2)]) : W p l e (rmD 3) s m args below meth c H locs 0 0 (MQ below (QI g (eC g q) q 23 rr σ s.heap.size) args s 0 0 (AQ q 23 s.heap.size)) (F0 m 46 ls []) := by
  have hx := X.1
  have hb := X.2.1
  unfold D_X6_rightOnes_46 at hD
  refine lv_iinc (v := v2 + (1 : Int32)) (lv' := [(2, .int (v2 + (1 : Int32))), (0, .ref (q 0)), (1, .int v1)]) hx hb dX6_rightOnes_46 hl (k := 2) rfl rfl (by decide) rfl (fun ls hl => ?_)
  refine lv_goto (tgt := 4) hx hb dX6_rightOnes_49 (by decide) ?_
  exact hrc4 v1 (v2 + (1 : Int32)) hD _ _ _ I (lv_sub hl [1, 2, 0] rfl)
def D_X6_rightOnes_4b (σ : St) (rc4 : Int32 → Int32 → Option Int32) (v1 : Int32) (v2 : Int32) : Option Int32 := if (σ 1 5) ≤ v2 then some v1 else gd (inb v2 4) (gd (inb v2 4) ((D_X2_isRight σ (5 + v2.toNatClampNeg) (σ 22 v2.toNatClampNeg)).bind fun y23 => if y23 = 0 then D_X6_rightOnes_46 σ rc4 v1 v2 else D_X6_rightOnes_46 σ rc4 (v1 ||| ((1 : Int32) <<< (v2 &&& 31))) v2))
set_option maxRecDepth 100000 in
set_option maxHeartbeats 4000000 in
theorem w_X6_rightOnes_4b {p : Program} {l : Launch} {e : Env} {s : State} {m : MethodId} {args : Array Value} {below : List Frame} {meth : Method} {c : Code} (g : Gh) (q : Nat → Nat) (X : MX p s m args meth c cX6_rightOnes 3 (some .int) RX6) {rr : Int32} (σ : St)  (v1 : Int32) (v2 : Int32) (rc4 : Int32 → Int32 → Option Int32) (hrc4 : ∀ (v1' : Int32) (v2' : Int32), rc4 v1' v2' = some rr → ∀ (H : Heap) (locs : List Loc) (ls : Array Slot), IC g q s σ H locs → lv_has ls 3 [(0, .ref (q 0)), (1, .int v1'), (2, .int v2')] → W p l e (rmD 3) s m args below meth c H locs 0 0 (MQ below (QI g (eC g q) q 23 rr σ s.heap.size) args s 0 0 (AQ q 23 s.heap.size)) (F0 m 4 ls [])) (hD : D_X6_rightOnes_4b σ rc4 v1 v2 = some rr) (H : Heap) (locs : List Loc) (ls : Array Slot) (I : IC g q s σ H locs) (hl : lv_has ls 3 [(0, .ref (q 0)), (1, .int v1), (2, .int v2)]) : W p l e (rmD 3) s m args below meth c H locs 0 0 (MQ below (QI g (eC g q) q 23 rr σ s.heap.size) args s 0 0 (AQ q 23 s.heap.size)) (F0 m 4 ls []) := by
  have hx := X.1
  have hb := X.2.1
  unfold D_X6_rightOnes_4b at hD
  refine lv_iload_n hx hb dX6_rightOnes_4 rfl (lv_at hl 2 rfl) ?_
  refine lv_aload_n hx hb dX6_rightOnes_5 rfl (lv_at hl 0 rfl) ?_
  refine g_YearDeck_trip X I fl_X6_12 dX6_rightOnes_6 ?_
  refine g_Ride_count X I fl_X6_71 dX6_rightOnes_9 ?_
  refine lv_icmp_ge (tgt := 52) hx hb dX6_rightOnes_12 (by decide) (fun hc9 => ?_) (fun hc9 => ?_)
  · have hD := ite_p hc9 hD
    refine lv_iload_n hx hb dX6_rightOnes_52 rfl (lv_at hl 1 rfl) ?_
    exact r_iret X I hD dX6_rightOnes_53
  · have hD := ite_n hc9 hD
    refine lv_aload_n hx hb dX6_rightOnes_15 rfl (lv_at hl 0 rfl) ?_
    refine g_YearDeck_trip X I fl_X6_12 dX6_rightOnes_16 ?_
    refine lv_aload_n hx hb dX6_rightOnes_19 rfl (lv_at hl 0 rfl) ?_
    refine g_YearDeck_trip X I fl_X6_12 dX6_rightOnes_20 ?_
    refine g_Ride_riders X I fl_X6_75 dX6_rightOnes_23 ?_
    refine lv_iload_n hx hb dX6_rightOnes_26 rfl (lv_at hl 2 rfl) ?_
    obtain ⟨hg18, hD⟩ := gd_s hD
    refine r_aald (t0 := 2) X I (by decide) rfl (eCr_3 g q _) hg18 dX6_rightOnes_27 ?_
    refine lv_aload_n hx hb dX6_rightOnes_28 rfl (lv_at hl 0 rfl) ?_
    refine g_YearDeck_sitting X I fl_X6_31 dX6_rightOnes_29 ?_
    refine lv_iload_n hx hb dX6_rightOnes_32 rfl (lv_at hl 2 rfl) ?_
    obtain ⟨hg22, hD⟩ := gd_s hD
    refine r_iald X I (by decide) ((eCa_22 g q) _) hg22 dX6_rightOnes_33 ?_
    obtain ⟨y23, hy23, hD⟩ := bd_s hD
    refine r_calli (r_runV (As := [.ref (q (5 + v2.toNatClampNeg)), .int (σ 22 v2.toNatClampNeg)]) (rest := []) X I (c_X2_isRight l g q _ σ (5 + v2.toNatClampNeg) (σ 22 v2.toNatClampNeg) (kRi_of hg18) hy23) kv_X2_isRight ml_X6_162 rfl (by decide) (eC_Ride g q _) ⟨Nat.le_of_ble_eq_true rfl, Nat.le_of_ble_eq_true rfl⟩ ⟨Nat.zero_le _, Nat.zero_le _⟩ rfl rfl hl.1 (Nat.le_of_ble_eq_true rfl) dX6_rightOnes_34) I (fun H locs I => ?_)
    refine lv_if_eq (tgt := 46) hx hb dX6_rightOnes_37 (by decide) (fun hc24 => ?_) (fun hc24 => ?_)
    · have hD := ite_p hc24 hD
      exact w_X6_rightOnes_46 g q X σ v1 v2 rc4 hrc4 hD _ _ _ I (lv_sub hl [0, 1, 2] rfl)
    · have hD := ite_n hc24 hD
      refine lv_iload_n hx hb dX6_rightOnes_40 rfl (lv_at hl 1 rfl) ?_
      refine lv_iconst (v := 1) hx hb dX6_rightOnes_41 (by decide) ?_
      refine lv_iload_n hx hb dX6_rightOnes_42 rfl (lv_at hl 2 rfl) ?_
      refine lv_ishl hx hb dX6_rightOnes_43 ?_
      refine lv_ior hx hb dX6_rightOnes_44 ?_
      refine lv_istore_n (lv' := [(1, .int (v1 ||| ((1 : Int32) <<< (v2 &&& 31)))), (0, .ref (q 0)), (2, .int v2)]) hx hb dX6_rightOnes_45 rfl hl (by decide) rfl (fun ls hl => ?_)
      exact w_X6_rightOnes_46 g q X σ (v1 ||| ((1 : Int32) <<< (v2 &&& 31))) v2 rc4 hrc4 hD _ _ _ I (lv_sub hl [1, 0, 2] rfl)
def D_X6_rightOnes_4 (σ : St) : Nat → Int32 → Int32 → Option Int32
  | 0 => fun _ _ => none
  | n + 1 => fun v1 v2 => D_X6_rightOnes_4b σ (D_X6_rightOnes_4 σ n) v1 v2
set_option maxRecDepth 100000 in
set_option maxHeartbeats 4000000 in
theorem w_X6_rightOnes_4 {p : Program} {l : Launch} {e : Env} {s : State} {m : MethodId} {args : Array Value} {below : List Frame} {meth : Method} {c : Code} (g : Gh) (q : Nat → Nat) (X : MX p s m args meth c cX6_rightOnes 3 (some .int) RX6) {rr : Int32} (σ : St)  : ∀ (n : Nat) (v1 : Int32) (v2 : Int32), D_X6_rightOnes_4 σ n v1 v2 = some rr → ∀ (H : Heap) (locs : List Loc) (ls : Array Slot), IC g q s σ H locs → lv_has ls 3 [(0, .ref (q 0)), (1, .int v1), (2, .int v2)] → W p l e (rmD 3) s m args below meth c H locs 0 0 (MQ below (QI g (eC g q) q 23 rr σ s.heap.size) args s 0 0 (AQ q 23 s.heap.size)) (F0 m 4 ls []) := by
  intro n
  induction n with
  | zero =>
    intro v1 v2 hD H locs ls I hl
    cases hD
  | succ n ih =>
    intro v1 v2 hD H locs ls I hl
    exact w_X6_rightOnes_4b g q X σ v1 v2 _ ih hD H locs ls I hl
def D_X6_rightOnes (σ : St) : Option Int32 := D_X6_rightOnes_4 σ FU (0 : Int32) (0 : Int32)
set_option maxRecDepth 100000 in
set_option maxHeartbeats 4000000 in
theorem c_X6_rightOnes (l : Launch) (g : Gh) (q : Nat → Nat) (sz : Nat) (σ : St) {rr : Int32} (hD : D_X6_rightOnes σ = some rr) : Met l yX6_rightOnes (wU yX6_rightOnes cX6_rightOnes 3 (some .int)) (rmD 3) (PQ g (eC g q) q 23 σ sz [.ref (q 0)]) (QI g (eC g q) q 23 rr σ sz) 0 0 (AQ q 23 sz) := by
  refine met_of (Qc := QI g (eC g q) q 23 rr σ) (by decide) (Nat.le_of_ble_eq_true rfl) ?_
  intro p e s m below meth c ls X I hl
  have hx := X.1
  have hb := X.2.1
  have hl : lv_has ls 3 [(0, .ref (q 0))] := hl
  unfold D_X6_rightOnes at hD
  refine lv_iconst (v := 0) hx hb dX6_rightOnes_0 (by decide) ?_
  refine lv_istore_n (lv' := [(1, .int (0 : Int32)), (0, .ref (q 0))]) hx hb dX6_rightOnes_1 rfl hl (by decide) rfl (fun ls hl => ?_)
  refine lv_iconst (v := 0) hx hb dX6_rightOnes_2 (by decide) ?_
  refine lv_istore_n (lv' := [(2, .int (0 : Int32)), (1, .int (0 : Int32)), (0, .ref (q 0))]) hx hb dX6_rightOnes_3 rfl hl (by decide) rfl (fun ls hl => ?_)
  exact w_X6_rightOnes_4 g q X σ FU (0 : Int32) (0 : Int32) hD _ _ _ I (lv_sub hl [2, 1, 0] rfl)

/-! YearDeck.ofSitting(I)I -/
def D_X6_ofSitting_33 (σ : St) (v1 : Int32) (v2 : Int32) : Option Int32 := (D_X2_firstOver σ v2).bind fun y23 => if v1 = (1 : Int32) then some y23 else if y23 = (-9 : Int32) then if v1 < (20 : Int32) then if v1 < (10 : Int32) then if v1 = (3 : Int32) then (D_X6_eldest σ).bind fun y51 => some y51 else if v1 = 0 then (D_X6_rightOnes σ).bind fun y46 => (D_J6_bitCount_0f7a4 σ y46).bind fun y47 => some y47 else (D_X6_rightOnes σ).bind fun y43 => some y43 else (D_X2_hasSection σ (v1 - (10 : Int32))).bind fun y60 => if y60 = 0 then some (-9 : Int32) else (D_X0_on σ v2 (v1 - (10 : Int32))).bind fun y66 => some y66 else (D_X2_hasRider σ (v1 - (20 : Int32))).bind fun y76 => if y76 = 0 then some (-9 : Int32) else gd (inb (v1 - (20 : Int32)) 4) (gd (inb (v1 - (20 : Int32)) 4) ((D_X2_yearsOff σ (5 + (v1 - (20 : Int32)).toNatClampNeg) (σ 22 (v1 - (20 : Int32)).toNatClampNeg)).bind fun y91 => some y91)) else some ((-100 : Int32) - y23)
set_option maxRecDepth 100000 in
set_option maxHeartbeats 4000000 in
theorem w_X6_ofSitting_33 {p : Program} {l : Launch} {e : Env} {s : State} {m : MethodId} {args : Array Value} {below : List Frame} {meth : Method} {c : Code} (g : Gh) (q : Nat → Nat) (X : MX p s m args meth c cX6_ofSitting 5 (some .int) RX6) {rr : Int32} (σ : St)  (v1 : Int32) (v2 : Int32) (hD : D_X6_ofSitting_33 σ v1 v2 = some rr) (H : Heap) (locs : List Loc) (ls : Array Slot) (I : IC g q s σ H locs) (hl : lv_has ls 5 [(0, .ref (q 0)), (1, .int v1), (2, .int v2)]) : W p l e (rmD 4) s m args below meth c H locs 0 0 (MQ below (QI g (eC g q) q 23 rr σ s.heap.size) args s 0 0 (AQ q 23 s.heap.size)) (F0 m 33 ls []) := by
  have hx := X.1
  have hb := X.2.1
  unfold D_X6_ofSitting_33 at hD
  refine lv_aload_n hx hb dX6_ofSitting_33 rfl (lv_at hl 0 rfl) ?_
  refine g_YearDeck_trip X I fl_X6_12 dX6_ofSitting_34 ?_
  refine lv_iload_n hx hb dX6_ofSitting_37 rfl (lv_at hl 2 rfl) ?_
  obtain ⟨y23, hy23, hD⟩ := bd_s hD
  refine r_calli (r_runV (As := [.int v2]) (rest := []) X I (c_X2_firstOver l g q _ σ v2 hy23) kv_X2_firstOver ml_X6_145 rfl (by decide) (eC_Ride g q _) ⟨Nat.le_of_ble_eq_true rfl, Nat.le_of_ble_eq_true rfl⟩ ⟨Nat.zero_le _, Nat.zero_le _⟩ rfl rfl hl.1 (Nat.le_of_ble_eq_true rfl) dX6_ofSitting_38) I (fun H locs I => ?_)
  refine lv_istore_n (lv' := [(3, .int y23), (0, .ref (q 0)), (1, .int v1), (2, .int v2)]) hx hb dX6_ofSitting_41 rfl hl (by decide) rfl (fun ls hl => ?_)
  refine lv_iload_n hx hb dX6_ofSitting_42 rfl (lv_at hl 2 rfl) ?_
  refine lv_iconst (v := 1) hx hb dX6_ofSitting_43 (by decide) ?_
  refine lv_icmp_ne (tgt := 49) hx hb dX6_ofSitting_44 (by decide) (fun hc27 => ?_) (fun hc27 => ?_)
  · have hD := ite_n hc27 hD
    refine lv_iload_n hx hb dX6_ofSitting_49 rfl (lv_at hl 0 rfl) ?_
    refine lv_bipush (v := -9) hx hb dX6_ofSitting_50 (by decide) ?_
    refine lv_icmp_eq (tgt := 60) hx hb dX6_ofSitting_52 (by decide) (fun hc30 => ?_) (fun hc30 => ?_)
    · have hD := ite_p hc30 hD
      refine lv_iload_n hx hb dX6_ofSitting_60 rfl (lv_at hl 2 rfl) ?_
      refine lv_bipush (v := 20) hx hb dX6_ofSitting_61 (by decide) ?_
      refine lv_icmp_lt (tgt := 114) hx hb dX6_ofSitting_63 (by decide) (fun hc33 => ?_) (fun hc33 => ?_)
      · have hD := ite_p hc33 hD
        refine lv_iload_n hx hb dX6_ofSitting_114 rfl (lv_at hl 2 rfl) ?_
        refine lv_bipush (v := 10) hx hb dX6_ofSitting_115 (by decide) ?_
        refine lv_icmp_lt (tgt := 150) hx hb dX6_ofSitting_117 (by decide) (fun hc36 => ?_) (fun hc36 => ?_)
        · have hD := ite_p hc36 hD
          refine lv_iload_n hx hb dX6_ofSitting_150 rfl (lv_at hl 2 rfl) ?_
          refine lv_iconst (v := 3) hx hb dX6_ofSitting_151 (by decide) ?_
          refine lv_icmp_ne (tgt := 160) hx hb dX6_ofSitting_152 (by decide) (fun hc39 => ?_) (fun hc39 => ?_)
          · have hD := ite_n hc39 hD
            refine lv_iload_n hx hb dX6_ofSitting_160 rfl (lv_at hl 2 rfl) ?_
            refine lv_if_ne (tgt := 174) hx hb dX6_ofSitting_161 (by decide) (fun hc41 => ?_) (fun hc41 => ?_)
            · have hD := ite_n hc41 hD
              refine lv_aload_n hx hb dX6_ofSitting_174 rfl (lv_at hl 1 rfl) ?_
              obtain ⟨y43, hy43, hD⟩ := bd_s hD
              refine r_calli (r_runV (As := []) (rest := []) X I (c_X6_rightOnes l g q _ σ hy43) kv_X6_rightOnes ml_X6_154 rfl (by decide) (eC_YearDeck g q _) ⟨Nat.le_of_ble_eq_true rfl, Nat.le_of_ble_eq_true rfl⟩ ⟨Nat.zero_le _, Nat.zero_le _⟩ rfl rfl hl.1 (Nat.le_of_ble_eq_true rfl) dX6_ofSitting_175) I (fun H locs I => ?_)
              exact r_iret X I hD dX6_ofSitting_178
            · have hD := ite_p hc41 hD
              refine lv_aload_n hx hb dX6_ofSitting_164 rfl (lv_at hl 1 rfl) ?_
              obtain ⟨y46, hy46, hD⟩ := bd_s hD
              refine r_calli (r_runV (As := []) (rest := []) X I (c_X6_rightOnes l g q _ σ hy46) kv_X6_rightOnes ml_X6_154 rfl (by decide) (eC_YearDeck g q _) ⟨Nat.le_of_ble_eq_true rfl, Nat.le_of_ble_eq_true rfl⟩ ⟨Nat.zero_le _, Nat.zero_le _⟩ rfl rfl hl.1 (Nat.le_of_ble_eq_true rfl) dX6_ofSitting_165) I (fun H locs I => ?_)
              obtain ⟨y47, hy47, hD⟩ := bd_s hD
              refine r_calli (r_runS (As := [.int y46]) (rest := []) X I (c_J6_bitCount_0f7a4 l g q _ σ y46 hy47) ks_J6_bitCount_0f7a4 ml_X6_157 ⟨Nat.le_of_ble_eq_true rfl, Nat.le_of_ble_eq_true rfl⟩ ⟨Nat.zero_le _, Nat.zero_le _⟩ rfl rfl hl.1 (Nat.le_of_ble_eq_true rfl) dX6_ofSitting_168) I (fun H locs I => ?_)
              refine lv_goto (tgt := 178) hx hb dX6_ofSitting_171 (by decide) ?_
              exact r_iret X I hD dX6_ofSitting_178
          · have hD := ite_p hc39 hD
            refine lv_aload_n hx hb dX6_ofSitting_155 rfl (lv_at hl 1 rfl) ?_
            obtain ⟨y51, hy51, hD⟩ := bd_s hD
            refine r_calli (r_runV (As := []) (rest := []) X I (c_X6_eldest l g q _ σ hy51) kv_X6_eldest ml_X6_151 rfl (by decide) (eC_YearDeck g q _) ⟨Nat.le_of_ble_eq_true rfl, Nat.le_of_ble_eq_true rfl⟩ ⟨Nat.zero_le _, Nat.zero_le _⟩ rfl rfl hl.1 (Nat.le_of_ble_eq_true rfl) dX6_ofSitting_156) I (fun H locs I => ?_)
            exact r_iret X I hD dX6_ofSitting_159
        · have hD := ite_n hc36 hD
          refine lv_iload_n hx hb dX6_ofSitting_120 rfl (lv_at hl 2 rfl) ?_
          refine lv_bipush (v := 10) hx hb dX6_ofSitting_121 (by decide) ?_
          refine lv_isub hx hb dX6_ofSitting_123 ?_
          refine lv_istore (lv' := [(4, .int (v1 - (10 : Int32))), (3, .int y23), (0, .ref (q 0)), (1, .int v1), (2, .int v2)]) hx hb dX6_ofSitting_124 hl (by decide) rfl (fun ls hl => ?_)
          refine lv_aload_n hx hb dX6_ofSitting_126 rfl (lv_at hl 2 rfl) ?_
          refine g_YearDeck_trip X I fl_X6_12 dX6_ofSitting_127 ?_
          refine lv_iload hx hb dX6_ofSitting_130 (lv_at hl 0 rfl) ?_
          obtain ⟨y60, hy60, hD⟩ := bd_s hD
          refine r_calli (r_runV (As := [.int (v1 - (10 : Int32))]) (rest := []) X I (c_X2_hasSection l g q _ σ (v1 - (10 : Int32)) hy60) kv_X2_hasSection ml_X6_100 rfl (by decide) (eC_Ride g q _) ⟨Nat.le_of_ble_eq_true rfl, Nat.le_of_ble_eq_true rfl⟩ ⟨Nat.zero_le _, Nat.zero_le _⟩ rfl rfl hl.1 (Nat.le_of_ble_eq_true rfl) dX6_ofSitting_132) I (fun H locs I => ?_)
          refine lv_if_eq (tgt := 147) hx hb dX6_ofSitting_135 (by decide) (fun hc61 => ?_) (fun hc61 => ?_)
          · have hD := ite_p hc61 hD
            refine lv_bipush (v := -9) hx hb dX6_ofSitting_147 (by decide) ?_
            exact r_iret X I hD dX6_ofSitting_149
          · have hD := ite_n hc61 hD
            refine lv_iload_n hx hb dX6_ofSitting_138 rfl (lv_at hl 4 rfl) ?_
            refine lv_iload hx hb dX6_ofSitting_139 (lv_at hl 0 rfl) ?_
            obtain ⟨y66, hy66, hD⟩ := bd_s hD
            refine r_calli (r_runS (As := [.int v2, .int (v1 - (10 : Int32))]) (rest := []) X I (c_X0_on l g q _ σ v2 (v1 - (10 : Int32)) hy66) ks_X0_on ml_X6_148 ⟨Nat.le_of_ble_eq_true rfl, Nat.le_of_ble_eq_true rfl⟩ ⟨Nat.zero_le _, Nat.zero_le _⟩ rfl rfl hl.1 (Nat.le_of_ble_eq_true rfl) dX6_ofSitting_141) I (fun H locs I => ?_)
            refine lv_goto (tgt := 149) hx hb dX6_ofSitting_144 (by decide) ?_
            exact r_iret X I hD dX6_ofSitting_149
      · have hD := ite_n hc33 hD
        refine lv_iload_n hx hb dX6_ofSitting_66 rfl (lv_at hl 2 rfl) ?_
        refine lv_bipush (v := 20) hx hb dX6_ofSitting_67 (by decide) ?_
        refine lv_isub hx hb dX6_ofSitting_69 ?_
        refine lv_istore (lv' := [(4, .int (v1 - (20 : Int32))), (3, .int y23), (0, .ref (q 0)), (1, .int v1), (2, .int v2)]) hx hb dX6_ofSitting_70 hl (by decide) rfl (fun ls hl => ?_)
        refine lv_aload_n hx hb dX6_ofSitting_72 rfl (lv_at hl 2 rfl) ?_
        refine g_YearDeck_trip X I fl_X6_12 dX6_ofSitting_73 ?_
        refine lv_iload hx hb dX6_ofSitting_76 (lv_at hl 0 rfl) ?_
        obtain ⟨y76, hy76, hD⟩ := bd_s hD
        refine r_calli (r_runV (As := [.int (v1 - (20 : Int32))]) (rest := []) X I (c_X2_hasRider l g q _ σ (v1 - (20 : Int32)) hy76) kv_X2_hasRider ml_X6_72 rfl (by decide) (eC_Ride g q _) ⟨Nat.le_of_ble_eq_true rfl, Nat.le_of_ble_eq_true rfl⟩ ⟨Nat.zero_le _, Nat.zero_le _⟩ rfl rfl hl.1 (Nat.le_of_ble_eq_true rfl) dX6_ofSitting_78) I (fun H locs I => ?_)
        refine lv_if_eq (tgt := 111) hx hb dX6_ofSitting_81 (by decide) (fun hc77 => ?_) (fun hc77 => ?_)
        · have hD := ite_p hc77 hD
          refine lv_bipush (v := -9) hx hb dX6_ofSitting_111 (by decide) ?_
          exact r_iret X I hD dX6_ofSitting_113
        · have hD := ite_n hc77 hD
          refine lv_aload_n hx hb dX6_ofSitting_84 rfl (lv_at hl 2 rfl) ?_
          refine g_YearDeck_trip X I fl_X6_12 dX6_ofSitting_85 ?_
          refine lv_aload_n hx hb dX6_ofSitting_88 rfl (lv_at hl 2 rfl) ?_
          refine g_YearDeck_trip X I fl_X6_12 dX6_ofSitting_89 ?_
          refine g_Ride_riders X I fl_X6_75 dX6_ofSitting_92 ?_
          refine lv_iload hx hb dX6_ofSitting_95 (lv_at hl 0 rfl) ?_
          obtain ⟨hg86, hD⟩ := gd_s hD
          refine r_aald (t0 := 2) X I (by decide) rfl (eCr_3 g q _) hg86 dX6_ofSitting_97 ?_
          refine lv_aload_n hx hb dX6_ofSitting_98 rfl (lv_at hl 2 rfl) ?_
          refine g_YearDeck_sitting X I fl_X6_31 dX6_ofSitting_99 ?_
          refine lv_iload hx hb dX6_ofSitting_102 (lv_at hl 0 rfl) ?_
          obtain ⟨hg90, hD⟩ := gd_s hD
          refine r_iald X I (by decide) ((eCa_22 g q) _) hg90 dX6_ofSitting_104 ?_
          obtain ⟨y91, hy91, hD⟩ := bd_s hD
          refine r_calli (r_runV (As := [.ref (q (5 + (v1 - (20 : Int32)).toNatClampNeg)), .int (σ 22 (v1 - (20 : Int32)).toNatClampNeg)]) (rest := []) X I (c_X2_yearsOff l g q _ σ (5 + (v1 - (20 : Int32)).toNatClampNeg) (σ 22 (v1 - (20 : Int32)).toNatClampNeg) (kRi_of hg86) hy91) kv_X2_yearsOff ml_X6_123 rfl (by decide) (eC_Ride g q _) ⟨Nat.le_of_ble_eq_true rfl, Nat.le_of_ble_eq_true rfl⟩ ⟨Nat.zero_le _, Nat.zero_le _⟩ rfl rfl hl.1 (Nat.le_of_ble_eq_true rfl) dX6_ofSitting_105) I (fun H locs I => ?_)
          refine lv_goto (tgt := 113) hx hb dX6_ofSitting_108 (by decide) ?_
          exact r_iret X I hD dX6_ofSitting_113
    · have hD := ite_n hc30 hD
      refine lv_bipush (v := -100) hx hb dX6_ofSitting_55 (by decide) ?_
      refine lv_iload_n hx hb dX6_ofSitting_57 rfl (lv_at hl 0 rfl) ?_
      refine lv_isub hx hb dX6_ofSitting_58 ?_
      exact r_iret X I hD dX6_ofSitting_59
  · have hD := ite_p hc27 hD
    refine lv_iload_n hx hb dX6_ofSitting_47 rfl (lv_at hl 0 rfl) ?_
    exact r_iret X I hD dX6_ofSitting_48
def D_X6_ofSitting_4b (σ : St) (rc4 : Int32 → Int32 → Option Int32) (v1 : Int32) (v2 : Int32) (v3 : Int32) : Option Int32 := if (σ 1 5) ≤ v3 then D_X6_ofSitting_33 σ v1 v2 else gd (inb v3 4) ((D_X0_of σ (σ 22 v3.toNatClampNeg)).bind fun y15 => rc4 (v2 + y15) (v3 + (1 : Int32)))
set_option maxRecDepth 100000 in
set_option maxHeartbeats 4000000 in
theorem w_X6_ofSitting_4b {p : Program} {l : Launch} {e : Env} {s : State} {m : MethodId} {args : Array Value} {below : List Frame} {meth : Method} {c : Code} (g : Gh) (q : Nat → Nat) (X : MX p s m args meth c cX6_ofSitting 5 (some .int) RX6) {rr : Int32} (σ : St)  (v1 : Int32) (v2 : Int32) (v3 : Int32) (rc4 : Int32 → Int32 → Option Int32) (hrc4 : ∀ (v2' : Int32) (v3' : Int32), rc4 v2' v3' = some rr → ∀ (H : Heap) (locs : List Loc) (ls : Array Slot), IC g q s σ H locs → lv_has ls 5 [(0, .ref (q 0)), (1, .int v1), (2, .int v2'), (3, .int v3')] → W p l e (rmD 4) s m args below meth c H locs 0 0 (MQ below (QI g (eC g q) q 23 rr σ s.heap.size) args s 0 0 (AQ q 23 s.heap.size)) (F0 m 4 ls [])) (hD : D_X6_ofSitting_4b σ rc4 v1 v2 v3 = some rr) (H : Heap) (locs : List Loc) (ls : Array Slot) (I : IC g q s σ H locs) (hl : lv_has ls 5 [(0, .ref (q 0)), (1, .int v1), (2, .int v2), (3, .int v3)]) : W p l e (rmD 4) s m args below meth c H locs 0 0 (MQ below (QI g (eC g q) q 23 rr σ s.heap.size) args s 0 0 (AQ q 23 s.heap.size)) (F0 m 4 ls []) := by
  have hx := X.1
  have hb := X.2.1
  unfold D_X6_ofSitting_4b at hD
  refine lv_iload_n hx hb dX6_ofSitting_4 rfl (lv_at hl 3 rfl) ?_
  refine lv_aload_n hx hb dX6_ofSitting_5 rfl (lv_at hl 0 rfl) ?_
  refine g_YearDeck_trip X I fl_X6_12 dX6_ofSitting_6 ?_
  refine g_Ride_count X I fl_X6_71 dX6_ofSitting_9 ?_
  refine lv_icmp_ge (tgt := 33) hx hb dX6_ofSitting_12 (by decide) (fun hc9 => ?_) (fun hc9 => ?_)
  · have hD := ite_p hc9 hD
    exact w_X6_ofSitting_33 g q X σ v1 v2 hD _ _ _ I (lv_sub hl [0, 1, 2] rfl)
  · have hD := ite_n hc9 hD
    refine lv_iload_n hx hb dX6_ofSitting_15 rfl (lv_at hl 2 rfl) ?_
    refine lv_aload_n hx hb dX6_ofSitting_16 rfl (lv_at hl 0 rfl) ?_
    refine g_YearDeck_sitting X I fl_X6_31 dX6_ofSitting_17 ?_
    refine lv_iload_n hx hb dX6_ofSitting_20 rfl (lv_at hl 3 rfl) ?_
    obtain ⟨hg14, hD⟩ := gd_s hD
    refine r_iald X I (by decide) ((eCa_22 g q) _) hg14 dX6_ofSitting_21 ?_
    obtain ⟨y15, hy15, hD⟩ := bd_s hD
    refine r_calli (r_runS (As := [.int (σ 22 v3.toNatClampNeg)]) (rest := [.int v2]) X I (c_X0_of l g q _ σ (σ 22 v3.toNatClampNeg) hy15) ks_X0_of ml_X6_140 ⟨Nat.le_of_ble_eq_true rfl, Nat.le_of_ble_eq_true rfl⟩ ⟨Nat.zero_le _, Nat.zero_le _⟩ rfl rfl hl.1 (Nat.le_of_ble_eq_true rfl) dX6_ofSitting_22) I (fun H locs I => ?_)
    refine lv_iadd hx hb dX6_ofSitting_25 ?_
    refine lv_istore_n (lv' := [(2, .int (v2 + y15)), (0, .ref (q 0)), (1, .int v1), (3, .int v3)]) hx hb dX6_ofSitting_26 rfl hl (by decide) rfl (fun ls hl => ?_)
    refine lv_iinc (v := v3 + (1 : Int32)) (lv' := [(3, .int (v3 + (1 : Int32))), (2, .int (v2 + y15)), (0, .ref (q 0)), (1, .int v1)]) hx hb dX6_ofSitting_27 hl (k := 3) rfl rfl (by decide) rfl (fun ls hl => ?_)
    refine lv_goto (tgt := 4) hx hb dX6_ofSitting_30 (by decide) ?_
    exact hrc4 (v2 + y15) (v3 + (1 : Int32)) hD _ _ _ I (lv_sub hl [2, 3, 1, 0] rfl)
def D_X6_ofSitting_4 (σ : St) (v1 : Int32) : Nat → Int32 → Int32 → Option Int32
  | 0 => fun _ _ => none
  | n + 1 => fun v2 v3 => D_X6_ofSitting_4b σ (D_X6_ofSitting_4 σ v1 n) v1 v2 v3
set_option maxRecDepth 100000 in
set_option maxHeartbeats 4000000 in
theorem w_X6_ofSitting_4 {p : Program} {l : Launch} {e : Env} {s : State} {m : MethodId} {args : Array Value} {below : List Frame} {meth : Method} {c : Code} (g : Gh) (q : Nat → Nat) (X : MX p s m args meth c cX6_ofSitting 5 (some .int) RX6) {rr : Int32} (σ : St)  (v1 : Int32) : ∀ (n : Nat) (v2 : Int32) (v3 : Int32), D_X6_ofSitting_4 σ v1 n v2 v3 = some rr → ∀ (H : Heap) (locs : List Loc) (ls : Array Slot), IC g q s σ H locs → lv_has ls 5 [(0, .ref (q 0)), (1, .int v1), (2, .int v2), (3, .int v3)] → W p l e (rmD 4) s m args below meth c H locs 0 0 (MQ below (QI g (eC g q) q 23 rr σ s.heap.size) args s 0 0 (AQ q 23 s.heap.size)) (F0 m 4 ls []) := by
  intro n
  induction n with
  | zero =>
    intro v2 v3 hD H locs ls I hl
    cases hD
  | succ n ih =>
    intro v2 v3 hD H locs ls I hl
    exact w_X6_ofSitting_4b g q X σ v1 v2 v3 _ ih hD H locs ls I hl
def D_X6_ofSitting (σ : St) (p1 : Int32) : Option Int32 := D_X6_ofSitting_4 σ p1 FU (0 : Int32) (0 : Int32)
set_option maxRecDepth 100000 in
set_option maxHeartbeats 4000000 in
theorem c_X6_ofSitting (l : Launch) (g : Gh) (q : Nat → Nat) (sz : Nat) (σ : St) (p1 : Int32) {rr : Int32} (hD : D_X6_ofSitting σ p1 = some rr) : Met l yX6_ofSitting (wU yX6_ofSitting cX6_ofSitting 5 (some .int)) (rmD 4) (PQ g (eC g q) q 23 σ sz [.ref (q 0), .int p1]) (QI g (eC g q) q 23 rr σ sz) 0 0 (AQ q 23 sz) := by
  refine met_of (Qc := QI g (eC g q) q 23 rr σ) (by decide) (Nat.le_of_ble_eq_true rfl) ?_
  intro p e s m below meth c ls X I hl
  have hx := X.1
  have hb := X.2.1
  have hl : lv_has ls 5 [(0, .ref (q 0)), (1, .int p1)] := hl
  unfold D_X6_ofSitting at hD
  refine lv_iconst (v := 0) hx hb dX6_ofSitting_0 (by decide) ?_
  refine lv_istore_n (lv' := [(2, .int (0 : Int32)), (0, .ref (q 0)), (1, .int p1)]) hx hb dX6_ofSitting_1 rfl hl (by decide) rfl (fun ls hl => ?_)
  refine lv_iconst (v := 0) hx hb dX6_ofSitting_2 (by decide) ?_
  refine lv_istore_n (lv' := [(3, .int (0 : Int32)), (2, .int (0 : Int32)), (0, .ref (q 0)), (1, .int p1)]) hx hb dX6_ofSitting_3 rfl hl (by decide) rfl (fun ls hl => ?_)
  exact w_X6_ofSitting_4 g q X σ p1 FU (0 : Int32) (0 : Int32) hD _ _ _ I (lv_sub hl [2, 3, 1, 0] rfl)

/-! YearDeck.sit(IIIII)I -/
def D_X6_sit (σ : St) (p1 : Int32) (p2 : Int32) (p3 : Int32) (p4 : Int32) (p5 : Int32) : Option (Int32 × St) := (D_X6_isSheet (up2 σ 0 5 (0 : Int32)) p1).bind fun y5 => if y5 = 0 then some ((-1 : Int32), up2 σ 0 5 (0 : Int32)) else (D_X6_isLane (up2 σ 0 5 (0 : Int32)) p2).bind fun y8 => if y8 = 0 then some ((-2 : Int32), up2 σ 0 5 (0 : Int32)) else (D_X6_isSittingQuestion (up2 σ 0 5 (0 : Int32)) p5).bind fun y13 => if y13 = 0 then some ((-2 : Int32), up2 σ 0 5 (0 : Int32)) else (D_X2_isTold (up2 σ 0 5 (0 : Int32))).bind fun y17 => if y17 = 0 then some ((-3 : Int32), up2 σ 0 5 (0 : Int32)) else gd (inb p1 4) ((D_X5_faultOfCells (up2 σ 0 5 (0 : Int32)) (14 + p1.toNatClampNeg) p2 p3 p4).bind fun y28 => if y28 = 0 then if p4 = ((up2 σ 0 5 (0 : Int32)) 1 5) then (D_X6_takeSitting (up2 σ 0 5 (0 : Int32)) (14 + p1.toNatClampNeg) p3).bind fun y42 => if y42.1 = 0 then some ((-2 : Int32), y42.2) else (D_X6_ofSitting y42.2 p5).bind fun y46 => some (y46, y42.2) else some ((-2 : Int32), up2 σ 0 5 (0 : Int32)) else (D_X6_failed (up2 σ 0 5 (0 : Int32)) y28).bind fun y52 => some (y52.1, y52.2))
set_option maxRecDepth 100000 in
set_option maxHeartbeats 4000000 in
theorem c_X6_sit (l : Launch) (g : Gh) (q : Nat → Nat) (sz : Nat) (σ : St) (p1 : Int32) (p2 : Int32) (p3 : Int32) (p4 : Int32) (p5 : Int32) {rr : (Int32 × St)} (hD : D_X6_sit σ p1 p2 p3 p4 p5 = some rr) : Met l yX6_sit (wU yX6_sit cX6_sit 8 (some .int)) (rmD 5) (PQ g (eC g q) q 23 σ sz [.ref (q 0), .int p1, .int p2, .int p3, .int p4, .int p5]) (QI g (eC g q) q 23 rr.1 rr.2 sz) 0 0 (AQ q 23 sz) := by
  refine met_of (Qc := QI g (eC g q) q 23 rr.1 rr.2) (by decide) (Nat.le_of_ble_eq_true rfl) ?_
  intro p e s m below meth c ls X I hl
  have hx := X.1
  have hb := X.2.1
  have hl : lv_has ls 8 [(0, .ref (q 0)), (1, .int p1), (2, .int p2), (3, .int p3), (4, .int p4), (5, .int p5)] := hl
  unfold D_X6_sit at hD
  refine lv_aload_n hx hb dX6_sit_0 rfl (lv_at hl 0 rfl) ?_
  refine lv_iconst (v := 0) hx hb dX6_sit_1 (by decide) ?_
  refine p_YearDeck_lastFault X I fl_X6_39 dX6_sit_2 (fun H locs I => ?_)
  refine lv_iload_n hx hb dX6_sit_5 rfl (lv_at hl 1 rfl) ?_
  obtain ⟨y5, hy5, hD⟩ := bd_s hD
  refine r_calli (r_runS (As := [.int p1]) (rest := []) X I (c_X6_isSheet l g q _ (up2 σ 0 5 (0 : Int32)) p1 hy5) ks_X6_isSheet ml_X6_43 ⟨Nat.le_of_ble_eq_true rfl, Nat.le_of_ble_eq_true rfl⟩ ⟨Nat.zero_le _, Nat.zero_le _⟩ rfl rfl hl.1 (Nat.le_of_ble_eq_true rfl) dX6_sit_6) I (fun H locs I => ?_)
  refine lv_if_ne (tgt := 14) hx hb dX6_sit_9 (by decide) (fun hc6 => ?_) (fun hc6 => ?_)
  · have hD := ite_n hc6 hD
    refine lv_iload_n hx hb dX6_sit_14 rfl (lv_at hl 2 rfl) ?_
    obtain ⟨y8, hy8, hD⟩ := bd_s hD
    refine r_calli (r_runS (As := [.int p2]) (rest := []) X I (c_X6_isLane l g q _ (up2 σ 0 5 (0 : Int32)) p2 hy8) ks_X6_isLane ml_X6_47 ⟨Nat.le_of_ble_eq_true rfl, Nat.le_of_ble_eq_true rfl⟩ ⟨Nat.zero_le _, Nat.zero_le _⟩ rfl rfl hl.1 (Nat.le_of_ble_eq_true rfl) dX6_sit_15) I (fun H locs I => ?_)
    refine lv_if_eq (tgt := 29) hx hb dX6_sit_18 (by decide) (fun hc9 => ?_) (fun hc9 => ?_)
    · have hD := ite_p hc9 hD
      refine lv_bipush (v := -2) hx hb dX6_sit_29 (by decide) ?_
      exact r_iret2 X I hD dX6_sit_31
    · have hD := ite_n hc9 hD
      refine lv_iload hx hb dX6_sit_21 (lv_at hl 5 rfl) ?_
      obtain ⟨y13, hy13, hD⟩ := bd_s hD
      refine r_calli (r_runS (As := [.int p5]) (rest := []) X I (c_X6_isSittingQuestion l g q _ (up2 σ 0 5 (0 : Int32)) p5 hy13) ks_X6_isSittingQuestion ml_X6_127 ⟨Nat.le_of_ble_eq_true rfl, Nat.le_of_ble_eq_true rfl⟩ ⟨Nat.zero_le _, Nat.zero_le _⟩ rfl rfl hl.1 (Nat.le_of_ble_eq_true rfl) dX6_sit_23) I (fun H locs I => ?_)
      refine lv_if_ne (tgt := 32) hx hb dX6_sit_26 (by decide) (fun hc14 => ?_) (fun hc14 => ?_)
      · have hD := ite_n hc14 hD
        refine lv_aload_n hx hb dX6_sit_32 rfl (lv_at hl 0 rfl) ?_
        refine g_YearDeck_trip X I fl_X6_12 dX6_sit_33 ?_
        obtain ⟨y17, hy17, hD⟩ := bd_s hD
        refine r_calli (r_runV (As := []) (rest := []) X I (c_X2_isTold l g q _ (up2 σ 0 5 (0 : Int32)) hy17) kv_X2_isTold ml_X6_110 rfl (by decide) (eC_Ride g q _) ⟨Nat.le_of_ble_eq_true rfl, Nat.le_of_ble_eq_true rfl⟩ ⟨Nat.zero_le _, Nat.zero_le _⟩ rfl rfl hl.1 (Nat.le_of_ble_eq_true rfl) dX6_sit_36) I (fun H locs I => ?_)
        refine lv_if_ne (tgt := 45) hx hb dX6_sit_39 (by decide) (fun hc18 => ?_) (fun hc18 => ?_)
        · have hD := ite_n hc18 hD
          refine lv_aload_n hx hb dX6_sit_45 rfl (lv_at hl 0 rfl) ?_
          refine g_YearDeck_sheets X I fl_X6_27 dX6_sit_46 ?_
          refine lv_iload_n hx hb dX6_sit_49 rfl (lv_at hl 1 rfl) ?_
          obtain ⟨hg22, hD⟩ := gd_s hD
          refine r_aald (t0 := 3) X I (by decide) rfl (eCr_13 g q _) hg22 dX6_sit_50 ?_
          refine lv_astore (lv' := [(6, .ref (q (14 + p1.toNatClampNeg))), (0, .ref (q 0)), (1, .int p1), (2, .int p2), (3, .int p3), (4, .int p4), (5, .int p5)]) hx hb dX6_sit_51 hl (by decide) rfl (fun ls hl => ?_)
          refine lv_aload hx hb dX6_sit_53 (lv_at hl 0 rfl) ?_
          refine lv_iload_n hx hb dX6_sit_55 rfl (lv_at hl 3 rfl) ?_
          refine lv_iload_n hx hb dX6_sit_56 rfl (lv_at hl 4 rfl) ?_
          refine lv_iload hx hb dX6_sit_57 (lv_at hl 5 rfl) ?_
          obtain ⟨y28, hy28, hD⟩ := bd_s hD
          refine r_calli (r_runV (As := [.int p2, .int p3, .int p4]) (rest := []) X I (c_X5_faultOfCells l g q _ (up2 σ 0 5 (0 : Int32)) (14 + p1.toNatClampNeg) p2 p3 p4 (kSh_of hg22) hy28) kv_X5_faultOfCells ml_X6_50 rfl (kSh_lt (kSh_of hg22)) (eC_Sheet g q _ (kSh_of hg22)) ⟨Nat.le_of_ble_eq_true rfl, Nat.le_of_ble_eq_true rfl⟩ ⟨Nat.zero_le _, Nat.zero_le _⟩ rfl rfl hl.1 (Nat.le_of_ble_eq_true rfl) dX6_sit_59) I (fun H locs I => ?_)
          refine lv_istore (lv' := [(7, .int y28), (6, .ref (q (14 + p1.toNatClampNeg))), (0, .ref (q 0)), (1, .int p1), (2, .int p2), (3, .int p3), (4, .int p4), (5, .int p5)]) hx hb dX6_sit_62 hl (by decide) rfl (fun ls hl => ?_)
          refine lv_iload hx hb dX6_sit_64 (lv_at hl 0 rfl) ?_
          refine lv_if_eq (tgt := 76) hx hb dX6_sit_66 (by decide) (fun hc31 => ?_) (fun hc31 => ?_)
          · have hD := ite_p hc31 hD
            refine lv_iload hx hb dX6_sit_76 (lv_at hl 6 rfl) ?_
            refine lv_aload_n hx hb dX6_sit_78 rfl (lv_at hl 2 rfl) ?_
            refine g_YearDeck_trip X I fl_X6_12 dX6_sit_79 ?_
            refine g_Ride_count X I fl_X6_71 dX6_sit_82 ?_
            refine lv_icmp_ne (tgt := 98) hx hb dX6_sit_85 (by decide) (fun hc36 => ?_) (fun hc36 => ?_)
            · have hD := ite_n hc36 hD
              refine lv_bipush (v := -2) hx hb dX6_sit_98 (by decide) ?_
              exact r_iret2 X I hD dX6_sit_100
            · have hD := ite_p hc36 hD
              refine lv_aload_n hx hb dX6_sit_88 rfl (lv_at hl 2 rfl) ?_
              refine lv_aload hx hb dX6_sit_89 (lv_at hl 1 rfl) ?_
              refine lv_iload_n hx hb dX6_sit_91 rfl (lv_at hl 5 rfl) ?_
              obtain ⟨y42, hy42, hD⟩ := bd_s hD
              refine r_calli (r_runV (As := [.ref (q (14 + p1.toNatClampNeg)), .int p3]) (rest := []) X I (c_X6_takeSitting l g q _ (up2 σ 0 5 (0 : Int32)) (14 + p1.toNatClampNeg) p3 (kSh_of hg22) hy42) kv_X6_takeSitting ml_X6_130 rfl (by decide) (eC_YearDeck g q _) ⟨Nat.le_of_ble_eq_true rfl, Nat.le_of_ble_eq_true rfl⟩ ⟨Nat.zero_le _, Nat.zero_le _⟩ rfl rfl hl.1 (Nat.le_of_ble_eq_true rfl) dX6_sit_92) I (fun H locs I => ?_)
              refine lv_if_ne (tgt := 101) hx hb dX6_sit_95 (by decide) (fun hc43 => ?_) (fun hc43 => ?_)
              · have hD := ite_n hc43 hD
                refine lv_aload_n hx hb dX6_sit_101 rfl (lv_at hl 2 rfl) ?_
                refine lv_iload hx hb dX6_sit_102 (lv_at hl 7 rfl) ?_
                obtain ⟨y46, hy46, hD⟩ := bd_s hD
                refine r_calli (r_runV (As := [.int p5]) (rest := []) X I (c_X6_ofSitting l g q _ y42.2 p5 hy46) kv_X6_ofSitting ml_X6_134 rfl (by decide) (eC_YearDeck g q _) ⟨Nat.le_of_ble_eq_true rfl, Nat.le_of_ble_eq_true rfl⟩ ⟨Nat.zero_le _, Nat.zero_le _⟩ rfl rfl hl.1 (Nat.le_of_ble_eq_true rfl) dX6_sit_104) I (fun H locs I => ?_)
                exact r_iret2 X I hD dX6_sit_107
              · have hD := ite_p hc43 hD
                refine lv_bipush (v := -2) hx hb dX6_sit_98 (by decide) ?_
                exact r_iret2 X I hD dX6_sit_100
          · have hD := ite_n hc31 hD
            refine lv_aload_n hx hb dX6_sit_69 rfl (lv_at hl 2 rfl) ?_
            refine lv_iload hx hb dX6_sit_70 (lv_at hl 0 rfl) ?_
            obtain ⟨y52, hy52, hD⟩ := bd_s hD
            refine r_calli (r_runV (As := [.int y28]) (rest := []) X I (c_X6_failed l g q _ (up2 σ 0 5 (0 : Int32)) y28 hy52) kv_X6_failed ml_X6_54 rfl (by decide) (eC_YearDeck g q _) ⟨Nat.le_of_ble_eq_true rfl, Nat.le_of_ble_eq_true rfl⟩ ⟨Nat.zero_le _, Nat.zero_le _⟩ rfl rfl hl.1 (Nat.le_of_ble_eq_true rfl) dX6_sit_72) I (fun H locs I => ?_)
            exact r_iret2 X I hD dX6_sit_75
        · have hD := ite_p hc18 hD
          refine lv_bipush (v := -3) hx hb dX6_sit_42 (by decide) ?_
          exact r_iret2 X I hD dX6_sit_44
      · have hD := ite_p hc14 hD
        refine lv_bipush (v := -2) hx hb dX6_sit_29 (by decide) ?_
        exact r_iret2 X I hD dX6_sit_31
  · have hD := ite_p hc6 hD
    refine lv_iconst (v := -1) hx hb dX6_sit_12 (by decide) ?_
    exact r_iret2 X I hD dX6_sit_13

/-! YearDeck.way(II)I -/
def D_X6_way_103 (σ : St) (rc43 : Int32 → Int32 → Option Int32) (v2 : Int32) (v3 : Nat) (v4 : Int32) (v5 : Int32) : Option Int32 := rc43 v4 (v5 + (1 : Int32))
set_option maxRecDepth 100000 in
set_option maxHeartbeats 4000000 in
theorem w_X6_way_103 {p : Program} {l : Launch} {e : Env} {s : State} {m : MethodId} {args : Array Value} {below : List Frame} {meth : Method} {c : Code} (g : Gh) (q : Nat → Nat) (X : MX p s m args meth c cX6_way 6 (some .int) RX6) {rr : Int32} (σ : St)  (v2 : Int32) (v3 : Nat) (v4 : Int32) (v5 : Int32) (kv3 : kRi v3) (rc43 : Int32 → Int32 → Option Int32) (hrc43 : ∀ (v4' : Int32) (v5' : Int32), rc43 v4' v5' = some rr → ∀ (H : Heap) (locs : List Loc) (ls : Array Slot), IC g q s σ H locs → lv_has ls 6 [(0, .ref (q 0)), (2, .int v2), (3, .ref (q v3)), (4, .int v4'), (5, .int v5')] → W p l e (rmD 3) s m args below meth c H locs 0 0 (MQ below (QI g (eC g q) q 23 rr σ s.heap.size) args s 0 0 (AQ q 23 s.heap.size)) (F0 m 43 ls [])) (hD : D_X6_way_103 σ rc43 v2 v3 v4 v5 = some rr) (H : Heap) (locs : List Loc) (ls : Array Slot) (I : IC g q s σ H locs) (hl : lv_has ls 6 [(0, .ref (q 0)), (2, .int v2), (3, .ref (q v3)), (4, .int v4), (5, .int v5)]) : W p l e (rmD 3) s m args below meth c H locs 0 0 (MQ below (QI g (eC g q) q 23 rr σ s.heap.size) args s 0 0 (AQ q 23 s.heap.size)) (F0 m 103 ls []) := by
  have hx := X.1
  have hb := X.2.1
  unfold D_X6_way_103 at hD
  refine lv_iinc (v := v5 + (1 : Int32)) (lv' := [(5, .int (v5 + (1 : Int32))), (0, .ref (q 0)), (2, .int v2), (3, .ref (q v3)), (4, .int v4)]) hx hb dX6_way_103 hl (k := 4) rfl rfl (by decide) rfl (fun ls hl => ?_)
  refine lv_goto (tgt := 43) hx hb dX6_way_106 (by decide) ?_
  exact hrc43 v4 (v5 + (1 : Int32)) hD _ _ _ I (lv_sub hl [1, 2, 3, 4, 0] rfl)
def D_X6_way_99 (σ : St) (rc43 : Int32 → Int32 → Option Int32) (v2 : Int32) (v3 : Nat) (v5 : Int32) : Option Int32 := D_X6_way_103 σ rc43 v2 v3 v5 v5
set_option maxRecDepth 100000 in
set_option maxHeartbeats 4000000 in
theorem w_X6_way_99 {p : Program} {l : Launch} {e : Env} {s : State} {m : MethodId} {args : Array Value} {below : List Frame} {meth : Method} {c : Code} (g : Gh) (q : Nat → Nat) (X : MX p s m args meth c cX6_way 6 (some .int) RX6) {rr : Int32} (σ : St)  (v2 : Int32) (v3 : Nat) (v5 : Int32) (kv3 : kRi v3) (rc43 : Int32 → Int32 → Option Int32) (hrc43 : ∀ (v4' : Int32) (v5' : Int32), rc43 v4' v5' = some rr → ∀ (H : Heap) (locs : List Loc) (ls : Array Slot), IC g q s σ H locs → lv_has ls 6 [(0, .ref (q 0)), (2, .int v2), (3, .ref (q v3)), (4, .int v4'), (5, .int v5')] → W p l e (rmD 3) s m args below meth c H locs 0 0 (MQ below (QI g (eC g q) q 23 rr σ s.heap.size) args s 0 0 (AQ q 23 s.heap.size)) (F0 m 43 ls [])) (hD : D_X6_way_99 σ rc43 v2 v3 v5 = some rr) (H : Heap) (locs : List Loc) (ls : Array Slot) (I : IC g q s σ H locs) (hl : lv_has ls 6 [(0, .ref (q 0)), (2, .int v2), (3, .ref (q v3)), (5, .int v5)]) : W p l e (rmD 3) s m args below meth c H locs 0 0 (MQ below (QI g (eC g q) q 23 rr σ s.heap.size) args s 0 0 (AQ q 23 s.heap.size)) (F0 m 99 ls []) := by
  have hx := X.1
  have hb := X.2.1
  unfold D_X6_way_99 at hD
  refine lv_iload hx hb dX6_way_99 (lv_at hl 3 rfl) ?_
  refine lv_istore (lv' := [(4, .int v5), (0, .ref (q 0)), (2, .int v2), (3, .ref (q v3)), (5, .int v5)]) hx hb dX6_way_101 hl (by decide) rfl (fun ls hl => ?_)
  exact w_X6_way_103 g q X σ v2 v3 v5 v5 kv3 rc43 hrc43 hD _ _ _ I (lv_sub hl [1, 2, 3, 0, 4] rfl)
def D_X6_way_43b (σ : St) (rc43 : Int32 → Int32 → Option Int32) (v2 : Int32) (v3 : Nat) (v4 : Int32) (v5 : Int32) : Option Int32 := (D_X4_own σ v3).bind fun y26 => if y26 < v5 then some v4 else (D_X2_canSitAlone σ v3 v5).bind fun y34 => if y34 = 0 then D_X6_way_103 σ rc43 v2 v3 v4 v5 else (D_X2_yearsOff σ v3 v5).bind fun y40 => if y40 = v2 then if v4 = (-9 : Int32) then D_X6_way_99 σ rc43 v2 v3 v5 else (D_J6_bitCount_0f7a4 σ v5).bind fun y47 => (D_J6_bitCount_0f7a4 σ v4).bind fun y49 => if y49 ≤ y47 then D_X6_way_103 σ rc43 v2 v3 v4 v5 else D_X6_way_99 σ rc43 v2 v3 v5 else D_X6_way_103 σ rc43 v2 v3 v4 v5
set_option maxRecDepth 100000 in
set_option maxHeartbeats 4000000 in
theorem w_X6_way_43b {p : Program} {l : Launch} {e : Env} {s : State} {m : MethodId} {args : Array Value} {below : List Frame} {meth : Method} {c : Code} (g : Gh) (q : Nat → Nat) (X : MX p s m args meth c cX6_way 6 (some .int) RX6) {rr : Int32} (σ : St)  (v2 : Int32) (v3 : Nat) (v4 : Int32) (v5 : Int32) (kv3 : kRi v3) (rc43 : Int32 → Int32 → Option Int32) (hrc43 : ∀ (v4' : Int32) (v5' : Int32), rc43 v4' v5' = some rr → ∀ (H : Heap) (locs : List Loc) (ls : Array Slot), IC g q s σ H locs → lv_has ls 6 [(0, .ref (q 0)), (2, .int v2), (3, .ref (q v3)), (4, .int v4'), (5, .int v5')] → W p l e (rmD 3) s m args below meth c H locs 0 0 (MQ below (QI g (eC g q) q 23 rr σ s.heap.size) args s 0 0 (AQ q 23 s.heap.size)) (F0 m 43 ls [])) (hD : D_X6_way_43b σ rc43 v2 v3 v4 v5 = some rr) (H : Heap) (locs : List Loc) (ls : Array Slot) (I : IC g q s σ H locs) (hl : lv_has ls 6 [(0, .ref (q 0)), (2, .int v2), (3, .ref (q v3)), (4, .int v4), (5, .int v5)]) : W p l e (rmD 3) s m args below meth c H locs 0 0 (MQ below (QI g (eC g q) q 23 rr σ s.heap.size) args s 0 0 (AQ q 23 s.heap.size)) (F0 m 43 ls []) := by
  have hx := X.1
  have hb := X.2.1
  unfold D_X6_way_43b at hD
  refine lv_iload hx hb dX6_way_43 (lv_at hl 4 rfl) ?_
  refine lv_aload_n hx hb dX6_way_45 rfl (lv_at hl 2 rfl) ?_
  obtain ⟨y26, hy26, hD⟩ := bd_s hD
  refine r_calli (r_runV (As := []) (rest := [.int v5]) X I (c_X4_own l g q _ σ v3 kv3 hy26) kv_X4_own ml_X6_96 rfl (kRi_lt kv3) (eC_Rider g q _ kv3) ⟨Nat.le_of_ble_eq_true rfl, Nat.le_of_ble_eq_true rfl⟩ ⟨Nat.zero_le _, Nat.zero_le _⟩ rfl rfl hl.1 (Nat.le_of_ble_eq_true rfl) dX6_way_46) I (fun H locs I => ?_)
  refine lv_icmp_gt (tgt := 109) hx hb dX6_way_49 (by decide) (fun hc27 => ?_) (fun hc27 => ?_)
  · have hD := ite_p hc27 hD
    refine lv_iload hx hb dX6_way_109 (lv_at hl 3 rfl) ?_
    exact r_iret X I hD dX6_way_111
  · have hD := ite_n hc27 hD
    refine lv_aload_n hx hb dX6_way_52 rfl (lv_at hl 0 rfl) ?_
    refine g_YearDeck_trip X I fl_X6_12 dX6_way_53 ?_
    refine lv_aload_n hx hb dX6_way_56 rfl (lv_at hl 2 rfl) ?_
    refine lv_iload hx hb dX6_way_57 (lv_at hl 4 rfl) ?_
    obtain ⟨y34, hy34, hD⟩ := bd_s hD
    refine r_calli (r_runV (As := [.ref (q v3), .int v5]) (rest := []) X I (c_X2_canSitAlone l g q _ σ v3 v5 kv3 hy34) kv_X2_canSitAlone ml_X6_166 rfl (by decide) (eC_Ride g q _) ⟨Nat.le_of_ble_eq_true rfl, Nat.le_of_ble_eq_true rfl⟩ ⟨Nat.zero_le _, Nat.zero_le _⟩ rfl rfl hl.1 (Nat.le_of_ble_eq_true rfl) dX6_way_59) I (fun H locs I => ?_)
    refine lv_if_eq (tgt := 103) hx hb dX6_way_62 (by decide) (fun hc35 => ?_) (fun hc35 => ?_)
    · have hD := ite_p hc35 hD
      exact w_X6_way_103 g q X σ v2 v3 v4 v5 kv3 rc43 hrc43 hD _ _ _ I (lv_sub hl [0, 1, 2, 3, 4] rfl)
    · have hD := ite_n hc35 hD
      refine lv_aload_n hx hb dX6_way_65 rfl (lv_at hl 0 rfl) ?_
      refine g_YearDeck_trip X I fl_X6_12 dX6_way_66 ?_
      refine lv_aload_n hx hb dX6_way_69 rfl (lv_at hl 2 rfl) ?_
      refine lv_iload hx hb dX6_way_70 (lv_at hl 4 rfl) ?_
      obtain ⟨y40, hy40, hD⟩ := bd_s hD
      refine r_calli (r_runV (As := [.ref (q v3), .int v5]) (rest := []) X I (c_X2_yearsOff l g q _ σ v3 v5 kv3 hy40) kv_X2_yearsOff ml_X6_123 rfl (by decide) (eC_Ride g q _) ⟨Nat.le_of_ble_eq_true rfl, Nat.le_of_ble_eq_true rfl⟩ ⟨Nat.zero_le _, Nat.zero_le _⟩ rfl rfl hl.1 (Nat.le_of_ble_eq_true rfl) dX6_way_72) I (fun H locs I => ?_)
      refine lv_iload_n hx hb dX6_way_75 rfl (lv_at hl 1 rfl) ?_
      refine lv_icmp_ne (tgt := 103) hx hb dX6_way_76 (by decide) (fun hc42 => ?_) (fun hc42 => ?_)
      · have hD := ite_n hc42 hD
        exact w_X6_way_103 g q X σ v2 v3 v4 v5 kv3 rc43 hrc43 hD _ _ _ I (lv_sub hl [0, 1, 2, 3, 4] rfl)
      · have hD := ite_p hc42 hD
        refine lv_iload hx hb dX6_way_79 (lv_at hl 3 rfl) ?_
        refine lv_bipush (v := -9) hx hb dX6_way_81 (by decide) ?_
        refine lv_icmp_eq (tgt := 99) hx hb dX6_way_83 (by decide) (fun hc45 => ?_) (fun hc45 => ?_)
        · have hD := ite_p hc45 hD
          exact w_X6_way_99 g q X σ v2 v3 v5 kv3 rc43 hrc43 hD _ _ _ I (lv_sub hl [0, 1, 2, 4] rfl)
        · have hD := ite_n hc45 hD
          refine lv_iload hx hb dX6_way_86 (lv_at hl 4 rfl) ?_
          obtain ⟨y47, hy47, hD⟩ := bd_s hD
          refine r_calli (r_runS (As := [.int v5]) (rest := []) X I (c_J6_bitCount_0f7a4 l g q _ σ v5 hy47) ks_J6_bitCount_0f7a4 ml_X6_157 ⟨Nat.le_of_ble_eq_true rfl, Nat.le_of_ble_eq_true rfl⟩ ⟨Nat.zero_le _, Nat.zero_le _⟩ rfl rfl hl.1 (Nat.le_of_ble_eq_true rfl) dX6_way_88) I (fun H locs I => ?_)
          refine lv_iload hx hb dX6_way_91 (lv_at hl 3 rfl) ?_
          obtain ⟨y49, hy49, hD⟩ := bd_s hD
          refine r_calli (r_runS (As := [.int v4]) (rest := [.int y47]) X I (c_J6_bitCount_0f7a4 l g q _ σ v4 hy49) ks_J6_bitCount_0f7a4 ml_X6_157 ⟨Nat.le_of_ble_eq_true rfl, Nat.le_of_ble_eq_true rfl⟩ ⟨Nat.zero_le _, Nat.zero_le _⟩ rfl rfl hl.1 (Nat.le_of_ble_eq_true rfl) dX6_way_93) I (fun H locs I => ?_)
          refine lv_icmp_ge (tgt := 103) hx hb dX6_way_96 (by decide) (fun hc50 => ?_) (fun hc50 => ?_)
          · have hD := ite_p hc50 hD
            exact w_X6_way_103 g q X σ v2 v3 v4 v5 kv3 rc43 hrc43 hD _ _ _ I (lv_sub hl [0, 1, 2, 3, 4] rfl)
          · have hD := ite_n hc50 hD
            exact w_X6_way_99 g q X σ v2 v3 v5 kv3 rc43 hrc43 hD _ _ _ I (lv_sub hl [0, 1, 2, 4] rfl)
def D_X6_way_43 (σ : St) (v2 : Int32) (v3 : Nat) : Nat → Int32 → Int32 → Option Int32
  | 0 => fun _ _ => none
  | n + 1 => fun v4 v5 => D_X6_way_43b σ (D_X6_way_43 σ v2 v3 n) v2 v3 v4 v5
set_option maxRecDepth 100000 in
set_option maxHeartbeats 4000000 in
theorem w_X6_way_43 {p : Program} {l : Launch} {e : Env} {s : State} {m : MethodId} {args : Array Value} {below : List Frame} {meth : Method} {c : Code} (g : Gh) (q : Nat → Nat) (X : MX p s m args meth c cX6_way 6 (some .int) RX6) {rr : Int32} (σ : St)  (v2 : Int32) (v3 : Nat) (kv3 : kRi v3) : ∀ (n : Nat) (v4 : Int32) (v5 : Int32), D_X6_way_43 σ v2 v3 n v4 v5 = some rr → ∀ (H : Heap) (locs : List Loc) (ls : Array Slot), IC g q s σ H locs → lv_has ls 6 [(0, .ref (q 0)), (2, .int v2), (3, .ref (q v3)), (4, .int v4), (5, .int v5)] → W p l e (rmD 3) s m args below meth c H locs 0 0 (MQ below (QI g (eC g q) q 23 rr σ s.heap.size) args s 0 0 (AQ q 23 s.heap.size)) (F0 m 43 ls []) := by
  intro n
  induction n with
  | zero =>
    intro v4 v5 hD H locs ls I hl
    cases hD
  | succ n ih =>
    intro v4 v5 hD H locs ls I hl
    exact w_X6_way_43b g q X σ v2 v3 v4 v5 kv3 _ ih hD H locs ls I hl
def D_X6_way (σ : St) (p1 : Int32) (p2 : Int32) : Option Int32 := (D_X2_hasRider σ p1).bind fun y4 => if y4 = 0 then some (-1 : Int32) else (D_X6_within σ p2 (199 : Int32)).bind fun y8 => if y8 = 0 then some (-2 : Int32) else gd (inb p1 4) (D_X6_way_43 σ p2 (5 + p1.toNatClampNeg) FU (-9 : Int32) (0 : Int32))
set_option maxRecDepth 100000 in
set_option maxHeartbeats 4000000 in
theorem c_X6_way (l : Launch) (g : Gh) (q : Nat → Nat) (sz : Nat) (σ : St) (p1 : Int32) (p2 : Int32) {rr : Int32} (hD : D_X6_way σ p1 p2 = some rr) : Met l yX6_way (wU yX6_way cX6_way 6 (some .int)) (rmD 3) (PQ g (eC g q) q 23 σ sz [.ref (q 0), .int p1, .int p2]) (QI g (eC g q) q 23 rr σ sz) 0 0 (AQ q 23 sz) := by
  refine met_of (Qc := QI g (eC g q) q 23 rr σ) (by decide) (Nat.le_of_ble_eq_true rfl) ?_
  intro p e s m below meth c ls X I hl
  have hx := X.1
  have hb := X.2.1
  have hl : lv_has ls 6 [(0, .ref (q 0)), (1, .int p1), (2, .int p2)] := hl
  unfold D_X6_way at hD
  refine lv_aload_n hx hb dX6_way_0 rfl (lv_at hl 0 rfl) ?_
  refine g_YearDeck_trip X I fl_X6_12 dX6_way_1 ?_
  refine lv_iload_n hx hb dX6_way_4 rfl (lv_at hl 1 rfl) ?_
  obtain ⟨y4, hy4, hD⟩ := bd_s hD
  refine r_calli (r_runV (As := [.int p1]) (rest := []) X I (c_X2_hasRider l g q _ σ p1 hy4) kv_X2_hasRider ml_X6_72 rfl (by decide) (eC_Ride g q _) ⟨Nat.le_of_ble_eq_true rfl, Nat.le_of_ble_eq_true rfl⟩ ⟨Nat.zero_le _, Nat.zero_le _⟩ rfl rfl hl.1 (Nat.le_of_ble_eq_true rfl) dX6_way_5) I (fun H locs I => ?_)
  refine lv_if_ne (tgt := 13) hx hb dX6_way_8 (by decide) (fun hc5 => ?_) (fun hc5 => ?_)
  · have hD := ite_n hc5 hD
    refine lv_iload_n hx hb dX6_way_13 rfl (lv_at hl 2 rfl) ?_
    refine lv_sipush (v := 199) hx hb dX6_way_14 (by decide) ?_
    obtain ⟨y8, hy8, hD⟩ := bd_s hD
    refine r_calli (r_runS (As := [.int p2, .int (199 : Int32)]) (rest := []) X I (c_X6_within l g q _ σ p2 (199 : Int32) hy8) ks_X6_within ml_X6_106 ⟨Nat.le_of_ble_eq_true rfl, Nat.le_of_ble_eq_true rfl⟩ ⟨Nat.zero_le _, Nat.zero_le _⟩ rfl rfl hl.1 (Nat.le_of_ble_eq_true rfl) dX6_way_17) I (fun H locs I => ?_)
    refine lv_if_ne (tgt := 26) hx hb dX6_way_20 (by decide) (fun hc9 => ?_) (fun hc9 => ?_)
    · have hD := ite_n hc9 hD
      refine lv_aload_n hx hb dX6_way_26 rfl (lv_at hl 0 rfl) ?_
      refine g_YearDeck_trip X I fl_X6_12 dX6_way_27 ?_
      refine g_Ride_riders X I fl_X6_75 dX6_way_30 ?_
      refine lv_iload_n hx hb dX6_way_33 rfl (lv_at hl 1 rfl) ?_
      obtain ⟨hg14, hD⟩ := gd_s hD
      refine r_aald (t0 := 2) X I (by decide) rfl (eCr_3 g q _) hg14 dX6_way_34 ?_
      refine lv_astore_n (lv' := [(3, .ref (q (5 + p1.toNatClampNeg))), (0, .ref (q 0)), (1, .int p1), (2, .int p2)]) hx hb dX6_way_35 rfl hl (by decide) rfl (fun ls hl => ?_)
      refine lv_bipush (v := -9) hx hb dX6_way_36 (by decide) ?_
      refine lv_istore (lv' := [(4, .int (-9 : Int32)), (3, .ref (q (5 + p1.toNatClampNeg))), (0, .ref (q 0)), (1, .int p1), (2, .int p2)]) hx hb dX6_way_38 hl (by decide) rfl (fun ls hl => ?_)
      refine lv_iconst (v := 0) hx hb dX6_way_40 (by decide) ?_
      refine lv_istore (lv' := [(5, .int (0 : Int32)), (4, .int (-9 : Int32)), (3, .ref (q (5 + p1.toNatClampNeg))), (0, .ref (q 0)), (1, .int p1), (2, .int p2)]) hx hb dX6_way_41 hl (by decide) rfl (fun ls hl => ?_)
      exact w_X6_way_43 g q X σ p2 (5 + p1.toNatClampNeg) (kRi_of hg14) FU (-9 : Int32) (0 : Int32) hD _ _ _ I (lv_sub hl [3, 5, 2, 1, 0] rfl)
    · have hD := ite_p hc9 hD
      refine lv_bipush (v := -2) hx hb dX6_way_23 (by decide) ?_
      exact r_iret X I hD dX6_way_25
  · have hD := ite_p hc5 hD
    refine lv_iconst (v := -1) hx hb dX6_way_11 (by decide) ?_
    exact r_iret X I hD dX6_way_12

/-! YearDeck.spread(I)I -/
def D_X6_spread_76 (σ : St) (v3 : Int32) : Option Int32 := (D_J6_bitCount_0f7a4 σ v3).bind fun y42 => some y42
set_option maxRecDepth 100000 in
set_option maxHeartbeats 4000000 in
theorem w_X6_spread_76 {p : Program} {l : Launch} {e : Env} {s : State} {m : MethodId} {args : Array Value} {below : List Frame} {meth : Method} {c : Code} (g : Gh) (q : Nat → Nat) (X : MX p s m args meth c cX6_spread 5 (some .int) RX6) {rr : Int32} (σ : St)  (v3 : Int32) (hD : D_X6_spread_76 σ v3 = some rr) (H : Heap) (locs : List Loc) (ls : Array Slot) (I : IC g q s σ H locs) (hl : lv_has ls 5 [(3, .int v3)]) : W p l e (rmD 3) s m args below meth c H locs 0 0 (MQ below (QI g (eC g q) q 23 rr σ s.heap.size) args s 0 0 (AQ q 23 s.heap.size)) (F0 m 76 ls []) := by
  have hx := X.1
  have hb := X.2.1
  unfold D_X6_spread_76 at hD
  refine lv_iload_n hx hb dX6_spread_76 rfl (lv_at hl 0 rfl) ?_
  obtain ⟨y42, hy42, hD⟩ := bd_s hD
  refine r_calli (r_runS (As := [.int v3]) (rest := []) X I (c_J6_bitCount_0f7a4 l g q _ σ v3 hy42) ks_J6_bitCount_0f7a4 ml_X6_157 ⟨Nat.le_of_ble_eq_true rfl, Nat.le_of_ble_eq_true rfl⟩ ⟨Nat.zero_le _, Nat.zero_le _⟩ rfl rfl hl.1 (Nat.le_of_ble_eq_true rfl) dX6_spread_77) I (fun H locs I => ?_)
  exact r_iret X I hD dX6_spread_80
def D_X6_spread_70 (σ : St) (rc28 : Int32 → Int32 → Option Int32) (v2 : Nat) (v3 : Int32) (v4 : Int32) : Option Int32 := rc28 v3 (v4 + (1 : Int32))
set_option maxRecDepth 100000 in
set_option maxHeartbeats 4000000 in
theorem w_X6_spread_70 {p : Program} {l : Launch} {e : Env} {s : State} {m : MethodId} {args : Array Value} {below : List Frame} {meth : Method} {c : Code} (g : Gh) (q : Nat → Nat) (X : MX p s m args meth c cX6_spread 5 (some .int) RX6) {rr : Int32} (σ : St)  (v2 : Nat) (v3 : Int32) (v4 : Int32) (kv2 : kRi v2) (rc28 : Int32 → Int32 → Option Int32) (hrc28 : ∀ (v3' : Int32) (v4' : Int32), rc28 v3' v4' = some rr → ∀ (H : Heap) (locs : List Loc) (ls : Array Slot), IC g q s σ H locs → lv_has ls 5 [(0, .ref (q 0)), (2, .ref (q v2)), (3, .int v3'), (4, .int v4')] → W p l e (rmD 3) s m args below meth c H locs 0 0 (MQ below (QI g (eC g q) q 23 rr σ s.heap.size) args s 0 0 (AQ q 23 s.heap.size)) (F0 m 28 ls [])) (hD : D_X6_spread_70 σ rc28 v2 v3 v4 = some rr) (H : Heap) (locs : List Loc) (ls : Array Slot) (I : IC g q s σ H locs) (hl : lv_has ls 5 [(0, .ref (q 0)), (2, .ref (q v2)), (3, .int v3), (4, .int v4)]) : W p l e (rmD 3) s m args below meth c H locs 0 0 (MQ below (QI g (eC g q) q 23 rr σ s.heap.size) args s 0 0 (AQ q 23 s.heap.size)) (F0 m 70 ls []) := by
  have hx := X.1
  have hb := X.2.1
  unfold D_X6_spread_70 at hD
  refine lv_iinc (v := v4 + (1 : Int32)) (lv' := [(4, .int (v4 + (1 : Int32))), (0, .ref (q 0)), (2, .ref (q v2)), (3, .int v3)]) hx hb dX6_spread_70 hl (k := 3) rfl rfl (by decide) rfl (fun ls hl => ?_)
  refine lv_goto (tgt := 28) hx hb dX6_spread_73 (by decide) ?_
  exact hrc28 v3 (v4 + (1 : Int32)) hD _ _ _ I (lv_sub hl [1, 2, 3, 0] rfl)
def D_X6_spread_28b (σ : St) (rc28 : Int32 → Int32 → Option Int32) (v2 : Nat) (v3 : Int32) (v4 : Int32) : Option Int32 := (D_X4_own σ v2).bind fun y20 => if y20 < v4 then D_X6_spread_76 σ v3 else (D_X2_canSitAlone σ v2 v4).bind fun y26 => if y26 = 0 then D_X6_spread_70 σ rc28 v2 v3 v4 else (D_X2_yearsOff σ v2 v4).bind fun y34 => D_X6_spread_70 σ rc28 v2 (v3 ||| ((1 : Int32) <<< ((y34 - (σ v2 3)) &&& 31))) v4
set_option maxRecDepth 100000 in
set_option maxHeartbeats 4000000 in
theorem w_X6_spread_28b {p : Program} {l : Launch} {e : Env} {s : State} {m : MethodId} {args : Array Value} {below : List Frame} {meth : Method} {c : Code} (g : Gh) (q : Nat → Nat) (X : MX p s m args meth c cX6_spread 5 (some .int) RX6) {rr : Int32} (σ : St)  (v2 : Nat) (v3 : Int32) (v4 : Int32) (kv2 : kRi v2) (rc28 : Int32 → Int32 → Option Int32) (hrc28 : ∀ (v3' : Int32) (v4' : Int32), rc28 v3' v4' = some rr → ∀ (H : Heap) (locs : List Loc) (ls : Array Slot), IC g q s σ H locs → lv_has ls 5 [(0, .ref (q 0)), (2, .ref (q v2)), (3, .int v3'), (4, .int v4')] → W p l e (rmD 3) s m args below meth c H locs 0 0 (MQ below (QI g (eC g q) q 23 rr σ s.heap.size) args s 0 0 (AQ q 23 s.heap.size)) (F0 m 28 ls [])) (hD : D_X6_spread_28b σ rc28 v2 v3 v4 = some rr) (H : Heap) (locs : List Loc) (ls : Array Slot) (I : IC g q s σ H locs) (hl : lv_has ls 5 [(0, .ref (q 0)), (2, .ref (q v2)), (3, .int v3), (4, .int v4)]) : W p l e (rmD 3) s m args below meth c H locs 0 0 (MQ below (QI g (eC g q) q 23 rr σ s.heap.size) args s 0 0 (AQ q 23 s.heap.size)) (F0 m 28 ls []) := by
  have hx := X.1
  have hb := X.2.1
  unfold D_X6_spread_28b at hD
  refine lv_iload hx hb dX6_spread_28 (lv_at hl 3 rfl) ?_
  refine lv_aload_n hx hb dX6_spread_30 rfl (lv_at hl 1 rfl) ?_
  obtain ⟨y20, hy20, hD⟩ := bd_s hD
  refine r_calli (r_runV (As := []) (rest := [.int v4]) X I (c_X4_own l g q _ σ v2 kv2 hy20) kv_X4_own ml_X6_96 rfl (kRi_lt kv2) (eC_Rider g q _ kv2) ⟨Nat.le_of_ble_eq_true rfl, Nat.le_of_ble_eq_true rfl⟩ ⟨Nat.zero_le _, Nat.zero_le _⟩ rfl rfl hl.1 (Nat.le_of_ble_eq_true rfl) dX6_spread_31) I (fun H locs I => ?_)
  refine lv_icmp_gt (tgt := 76) hx hb dX6_spread_34 (by decide) (fun hc21 => ?_) (fun hc21 => ?_)
  · have hD := ite_p hc21 hD
    exact w_X6_spread_76 g q X σ v3 hD _ _ _ I (lv_sub hl [2] rfl)
  · have hD := ite_n hc21 hD
    refine lv_aload_n hx hb dX6_spread_37 rfl (lv_at hl 0 rfl) ?_
    refine g_YearDeck_trip X I fl_X6_12 dX6_spread_38 ?_
    refine lv_aload_n hx hb dX6_spread_41 rfl (lv_at hl 1 rfl) ?_
    refine lv_iload hx hb dX6_spread_42 (lv_at hl 3 rfl) ?_
    obtain ⟨y26, hy26, hD⟩ := bd_s hD
    refine r_calli (r_runV (As := [.ref (q v2), .int v4]) (rest := []) X I (c_X2_canSitAlone l g q _ σ v2 v4 kv2 hy26) kv_X2_canSitAlone ml_X6_166 rfl (by decide) (eC_Ride g q _) ⟨Nat.le_of_ble_eq_true rfl, Nat.le_of_ble_eq_true rfl⟩ ⟨Nat.zero_le _, Nat.zero_le _⟩ rfl rfl hl.1 (Nat.le_of_ble_eq_true rfl) dX6_spread_44) I (fun H locs I => ?_)
    refine lv_if_eq (tgt := 70) hx hb dX6_spread_47 (by decide) (fun hc27 => ?_) (fun hc27 => ?_)
    · have hD := ite_p hc27 hD
      exact w_X6_spread_70 g q X σ v2 v3 v4 kv2 rc28 hrc28 hD _ _ _ I (lv_sub hl [0, 1, 2, 3] rfl)
    · have hD := ite_n hc27 hD
      refine lv_iload_n hx hb dX6_spread_50 rfl (lv_at hl 2 rfl) ?_
      refine lv_iconst (v := 1) hx hb dX6_spread_51 (by decide) ?_
      refine lv_aload_n hx hb dX6_spread_52 rfl (lv_at hl 0 rfl) ?_
      refine g_YearDeck_trip X I fl_X6_12 dX6_spread_53 ?_
      refine lv_aload_n hx hb dX6_spread_56 rfl (lv_at hl 1 rfl) ?_
      refine lv_iload hx hb dX6_spread_57 (lv_at hl 3 rfl) ?_
      obtain ⟨y34, hy34, hD⟩ := bd_s hD
      refine r_calli (r_runV (As := [.ref (q v2), .int v4]) (rest := [.int (1 : Int32), .int v3]) X I (c_X2_yearsOff l g q _ σ v2 v4 kv2 hy34) kv_X2_yearsOff ml_X6_123 rfl (by decide) (eC_Ride g q _) ⟨Nat.le_of_ble_eq_true rfl, Nat.le_of_ble_eq_true rfl⟩ ⟨Nat.zero_le _, Nat.zero_le _⟩ rfl rfl hl.1 (Nat.le_of_ble_eq_true rfl) dX6_spread_59) I (fun H locs I => ?_)
      refine lv_aload_n hx hb dX6_spread_62 rfl (lv_at hl 1 rfl) ?_
      refine g_Rider_years X I kv2 fl_X6_90 dX6_spread_63 ?_
      refine lv_isub hx hb dX6_spread_66 ?_
      refine lv_ishl hx hb dX6_spread_67 ?_
      refine lv_ior hx hb dX6_spread_68 ?_
      refine lv_istore_n (lv' := [(3, .int (v3 ||| ((1 : Int32) <<< ((y34 - (σ v2 3)) &&& 31)))), (0, .ref (q 0)), (2, .ref (q v2)), (4, .int v4)]) hx hb dX6_spread_69 rfl hl (by decide) rfl (fun ls hl => ?_)
      exact w_X6_spread_70 g q X σ v2 (v3 ||| ((1 : Int32) <<< ((y34 - (σ v2 3)) &&& 31))) v4 kv2 rc28 hrc28 hD _ _ _ I (lv_sub hl [1, 2, 0, 3] rfl)
def D_X6_spread_28 (σ : St) (v2 : Nat) : Nat → Int32 → Int32 → Option Int32
  | 0 => fun _ _ => none
  | n + 1 => fun v3 v4 => D_X6_spread_28b σ (D_X6_spread_28 σ v2 n) v2 v3 v4
set_option maxRecDepth 100000 in
set_option maxHeartbeats 4000000 in
theorem w_X6_spread_28 {p : Program} {l : Launch} {e : Env} {s : State} {m : MethodId} {args : Array Value} {below : List Frame} {meth : Method} {c : Code} (g : Gh) (q : Nat → Nat) (X : MX p s m args meth c cX6_spread 5 (some .int) RX6) {rr : Int32} (σ : St)  (v2 : Nat) (kv2 : kRi v2) : ∀ (n : Nat) (v3 : Int32) (v4 : Int32), D_X6_spread_28 σ v2 n v3 v4 = some rr → ∀ (H : Heap) (locs : List Loc) (ls : Array Slot), IC g q s σ H locs → lv_has ls 5 [(0, .ref (q 0)), (2, .ref (q v2)), (3, .int v3), (4, .int v4)] → W p l e (rmD 3) s m args below meth c H locs 0 0 (MQ below (QI g (eC g q) q 23 rr σ s.heap.size) args s 0 0 (AQ q 23 s.heap.size)) (F0 m 28 ls []) := by
  intro n
  induction n with
  | zero =>
    intro v3 v4 hD H locs ls I hl
    cases hD
  | succ n ih =>
    intro v3 v4 hD H locs ls I hl
    exact w_X6_spread_28b g q X σ v2 v3 v4 kv2 _ ih hD H locs ls I hl
def D_X6_spread (σ : St) (p1 : Int32) : Option Int32 := (D_X2_hasRider σ p1).bind fun y4 => if y4 = 0 then some (-1 : Int32) else gd (inb p1 4) (D_X6_spread_28 σ (5 + p1.toNatClampNeg) FU (0 : Int32) (0 : Int32))
set_option maxRecDepth 100000 in
set_option maxHeartbeats 4000000 in
theorem c_X6_spread (l : Launch) (g : Gh) (q : Nat → Nat) (sz : Nat) (σ : St) (p1 : Int32) {rr : Int32} (hD : D_X6_spread σ p1 = some rr) : Met l yX6_spread (wU yX6_spread cX6_spread 5 (some .int)) (rmD 3) (PQ g (eC g q) q 23 σ sz [.ref (q 0), .int p1]) (QI g (eC g q) q 23 rr σ sz) 0 0 (AQ q 23 sz) := by
  refine met_of (Qc := QI g (eC g q) q 23 rr σ) (by decide) (Nat.le_of_ble_eq_true rfl) ?_
  intro p e s m below meth c ls X I hl
  have hx := X.1
  have hb := X.2.1
  have hl : lv_has ls 5 [(0, .ref (q 0)), (1, .int p1)] := hl
  unfold D_X6_spread at hD
  refine lv_aload_n hx hb dX6_spread_0 rfl (lv_at hl 0 rfl) ?_
  refine g_YearDeck_trip X I fl_X6_12 dX6_spread_1 ?_
  refine lv_iload_n hx hb dX6_spread_4 rfl (lv_at hl 1 rfl) ?_
  obtain ⟨y4, hy4, hD⟩ := bd_s hD
  refine r_calli (r_runV (As := [.int p1]) (rest := []) X I (c_X2_hasRider l g q _ σ p1 hy4) kv_X2_hasRider ml_X6_72 rfl (by decide) (eC_Ride g q _) ⟨Nat.le_of_ble_eq_true rfl, Nat.le_of_ble_eq_true rfl⟩ ⟨Nat.zero_le _, Nat.zero_le _⟩ rfl rfl hl.1 (Nat.le_of_ble_eq_true rfl) dX6_spread_5) I (fun H locs I => ?_)
  refine lv_if_ne (tgt := 13) hx hb dX6_spread_8 (by decide) (fun hc5 => ?_) (fun hc5 => ?_)
  · have hD := ite_n hc5 hD
    refine lv_aload_n hx hb dX6_spread_13 rfl (lv_at hl 0 rfl) ?_
    refine g_YearDeck_trip X I fl_X6_12 dX6_spread_14 ?_
    refine g_Ride_riders X I fl_X6_75 dX6_spread_17 ?_
    refine lv_iload_n hx hb dX6_spread_20 rfl (lv_at hl 1 rfl) ?_
    obtain ⟨hg10, hD⟩ := gd_s hD
    refine r_aald (t0 := 2) X I (by decide) rfl (eCr_3 g q _) hg10 dX6_spread_21 ?_
    refine lv_astore_n (lv' := [(2, .ref (q (5 + p1.toNatClampNeg))), (0, .ref (q 0)), (1, .int p1)]) hx hb dX6_spread_22 rfl hl (by decide) rfl (fun ls hl => ?_)
    refine lv_iconst (v := 0) hx hb dX6_spread_23 (by decide) ?_
    refine lv_istore_n (lv' := [(3, .int (0 : Int32)), (2, .ref (q (5 + p1.toNatClampNeg))), (0, .ref (q 0)), (1, .int p1)]) hx hb dX6_spread_24 rfl hl (by decide) rfl (fun ls hl => ?_)
    refine lv_iconst (v := 0) hx hb dX6_spread_25 (by decide) ?_
    refine lv_istore (lv' := [(4, .int (0 : Int32)), (3, .int (0 : Int32)), (2, .ref (q (5 + p1.toNatClampNeg))), (0, .ref (q 0)), (1, .int p1)]) hx hb dX6_spread_26 hl (by decide) rfl (fun ls hl => ?_)
    exact w_X6_spread_28 g q X σ (5 + p1.toNatClampNeg) (kRi_of hg10) FU (0 : Int32) (0 : Int32) hD _ _ _ I (lv_sub hl [3, 2, 1, 0] rfl)
  · have hD := ite_p hc5 hD
    refine lv_iconst (v := -1) hx hb dX6_spread_11 (by decide) ?_
    exact r_iret X I hD dX6_spread_12

/-! YearDeck.agree(III)I -/
def D_X6_agree (σ : St) (p1 : Int32) (p2 : Int32) (p3 : Int32) : Option Int32 := (D_X2_hasRider σ p1).bind fun y4 => if y4 = 0 then some (-1 : Int32) else (D_X2_hasRider σ p2).bind fun y11 => if y11 = 0 then some (-1 : Int32) else if p1 = p2 then some (-1 : Int32) else (D_X6_within σ p3 (2 : Int32)).bind fun y20 => if y20 = 0 then some (-2 : Int32) else gd (inb p1 4) (gd (inb p2 4) ((D_X2_agreeing σ (5 + p1.toNatClampNeg) (5 + p2.toNatClampNeg)).bind fun y34 => if y34 = (-9 : Int32) then some (-9 : Int32) else (D_X2_firstOf σ y34).bind fun y40 => (D_X2_otherOf σ y34).bind fun y43 => if p3 = 0 then (D_J6_bitCount_0f7a4 σ y40).bind fun y56 => (D_J6_bitCount_0f7a4 σ y43).bind fun y58 => some (y56 + y58) else if p3 = (1 : Int32) then some y40 else some y43))
set_option maxRecDepth 100000 in
set_option maxHeartbeats 4000000 in
theorem c_X6_agree (l : Launch) (g : Gh) (q : Nat → Nat) (sz : Nat) (σ : St) (p1 : Int32) (p2 : Int32) (p3 : Int32) {rr : Int32} (hD : D_X6_agree σ p1 p2 p3 = some rr) : Met l yX6_agree (wU yX6_agree cX6_agree 7 (some .int)) (rmD 4) (PQ g (eC g q) q 23 σ sz [.ref (q 0), .int p1, .int p2, .int p3]) (QI g (eC g q) q 23 rr σ sz) 0 0 (AQ q 23 sz) := by
  refine met_of (Qc := QI g (eC g q) q 23 rr σ) (by decide) (Nat.le_of_ble_eq_true rfl) ?_
  intro p e s m below meth c ls X I hl
  have hx := X.1
  have hb := X.2.1
  have hl : lv_has ls 7 [(0, .ref (q 0)), (1, .int p1), (2, .int p2), (3, .int p3)] := hl
  unfold D_X6_agree at hD
  refine lv_aload_n hx hb dX6_agree_0 rfl (lv_at hl 0 rfl) ?_
  refine g_YearDeck_trip X I fl_X6_12 dX6_agree_1 ?_
  refine lv_iload_n hx hb dX6_agree_4 rfl (lv_at hl 1 rfl) ?_
  obtain ⟨y4, hy4, hD⟩ := bd_s hD
  refine r_calli (r_runV (As := [.int p1]) (rest := []) X I (c_X2_hasRider l g q _ σ p1 hy4) kv_X2_hasRider ml_X6_72 rfl (by decide) (eC_Ride g q _) ⟨Nat.le_of_ble_eq_true rfl, Nat.le_of_ble_eq_true rfl⟩ ⟨Nat.zero_le _, Nat.zero_le _⟩ rfl rfl hl.1 (Nat.le_of_ble_eq_true rfl) dX6_agree_5) I (fun H locs I => ?_)
  refine lv_if_eq (tgt := 27) hx hb dX6_agree_8 (by decide) (fun hc5 => ?_) (fun hc5 => ?_)
  · have hD := ite_p hc5 hD
    refine lv_iconst (v := -1) hx hb dX6_agree_27 (by decide) ?_
    exact r_iret X I hD dX6_agree_28
  · have hD := ite_n hc5 hD
    refine lv_aload_n hx hb dX6_agree_11 rfl (lv_at hl 0 rfl) ?_
    refine g_YearDeck_trip X I fl_X6_12 dX6_agree_12 ?_
    refine lv_iload_n hx hb dX6_agree_15 rfl (lv_at hl 2 rfl) ?_
    obtain ⟨y11, hy11, hD⟩ := bd_s hD
    refine r_calli (r_runV (As := [.int p2]) (rest := []) X I (c_X2_hasRider l g q _ σ p2 hy11) kv_X2_hasRider ml_X6_72 rfl (by decide) (eC_Ride g q _) ⟨Nat.le_of_ble_eq_true rfl, Nat.le_of_ble_eq_true rfl⟩ ⟨Nat.zero_le _, Nat.zero_le _⟩ rfl rfl hl.1 (Nat.le_of_ble_eq_true rfl) dX6_agree_16) I (fun H locs I => ?_)
    refine lv_if_eq (tgt := 27) hx hb dX6_agree_19 (by decide) (fun hc12 => ?_) (fun hc12 => ?_)
    · have hD := ite_p hc12 hD
      refine lv_iconst (v := -1) hx hb dX6_agree_27 (by decide) ?_
      exact r_iret X I hD dX6_agree_28
    · have hD := ite_n hc12 hD
      refine lv_iload_n hx hb dX6_agree_22 rfl (lv_at hl 1 rfl) ?_
      refine lv_iload_n hx hb dX6_agree_23 rfl (lv_at hl 2 rfl) ?_
      refine lv_icmp_ne (tgt := 29) hx hb dX6_agree_24 (by decide) (fun hc17 => ?_) (fun hc17 => ?_)
      · have hD := ite_n hc17 hD
        refine lv_iload_n hx hb dX6_agree_29 rfl (lv_at hl 3 rfl) ?_
        refine lv_iconst (v := 2) hx hb dX6_agree_30 (by decide) ?_
        obtain ⟨y20, hy20, hD⟩ := bd_s hD
        refine r_calli (r_runS (As := [.int p3, .int (2 : Int32)]) (rest := []) X I (c_X6_within l g q _ σ p3 (2 : Int32) hy20) ks_X6_within ml_X6_106 ⟨Nat.le_of_ble_eq_true rfl, Nat.le_of_ble_eq_true rfl⟩ ⟨Nat.zero_le _, Nat.zero_le _⟩ rfl rfl hl.1 (Nat.le_of_ble_eq_true rfl) dX6_agree_31) I (fun H locs I => ?_)
        refine lv_if_ne (tgt := 40) hx hb dX6_agree_34 (by decide) (fun hc21 => ?_) (fun hc21 => ?_)
        · have hD := ite_n hc21 hD
          refine lv_aload_n hx hb dX6_agree_40 rfl (lv_at hl 0 rfl) ?_
          refine g_YearDeck_trip X I fl_X6_12 dX6_agree_41 ?_
          refine lv_aload_n hx hb dX6_agree_44 rfl (lv_at hl 0 rfl) ?_
          refine g_YearDeck_trip X I fl_X6_12 dX6_agree_45 ?_
          refine g_Ride_riders X I fl_X6_75 dX6_agree_48 ?_
          refine lv_iload_n hx hb dX6_agree_51 rfl (lv_at hl 1 rfl) ?_
          obtain ⟨hg28, hD⟩ := gd_s hD
          refine r_aald (t0 := 2) X I (by decide) rfl (eCr_3 g q _) hg28 dX6_agree_52 ?_
          refine lv_aload_n hx hb dX6_agree_53 rfl (lv_at hl 0 rfl) ?_
          refine g_YearDeck_trip X I fl_X6_12 dX6_agree_54 ?_
          refine g_Ride_riders X I fl_X6_75 dX6_agree_57 ?_
          refine lv_iload_n hx hb dX6_agree_60 rfl (lv_at hl 2 rfl) ?_
          obtain ⟨hg33, hD⟩ := gd_s hD
          refine r_aald (t0 := 2) X I (by decide) rfl (eCr_3 g q _) hg33 dX6_agree_61 ?_
          obtain ⟨y34, hy34, hD⟩ := bd_s hD
          refine r_calli (r_runV (As := [.ref (q (5 + p1.toNatClampNeg)), .ref (q (5 + p2.toNatClampNeg))]) (rest := []) X I (c_X2_agreeing l g q _ σ (5 + p1.toNatClampNeg) (5 + p2.toNatClampNeg) (kRi_of hg28) (kRi_of hg33) hy34) kv_X2_agreeing ml_X6_169 rfl (by decide) (eC_Ride g q _) ⟨Nat.le_of_ble_eq_true rfl, Nat.le_of_ble_eq_true rfl⟩ ⟨Nat.zero_le _, Nat.zero_le _⟩ rfl rfl hl.1 (Nat.le_of_ble_eq_true rfl) dX6_agree_62) I (fun H locs I => ?_)
          refine lv_istore (lv' := [(4, .int y34), (0, .ref (q 0)), (1, .int p1), (2, .int p2), (3, .int p3)]) hx hb dX6_agree_65 hl (by decide) rfl (fun ls hl => ?_)
          refine lv_iload hx hb dX6_agree_67 (lv_at hl 0 rfl) ?_
          refine lv_bipush (v := -9) hx hb dX6_agree_69 (by decide) ?_
          refine lv_icmp_ne (tgt := 77) hx hb dX6_agree_71 (by decide) (fun hc38 => ?_) (fun hc38 => ?_)
          · have hD := ite_n hc38 hD
            refine lv_iload hx hb dX6_agree_77 (lv_at hl 0 rfl) ?_
            obtain ⟨y40, hy40, hD⟩ := bd_s hD
            refine r_calli (r_runS (As := [.int y34]) (rest := []) X I (c_X2_firstOf l g q _ σ y34 hy40) ks_X2_firstOf ml_X6_173 ⟨Nat.le_of_ble_eq_true rfl, Nat.le_of_ble_eq_true rfl⟩ ⟨Nat.zero_le _, Nat.zero_le _⟩ rfl rfl hl.1 (Nat.le_of_ble_eq_true rfl) dX6_agree_79) I (fun H locs I => ?_)
            refine lv_istore (lv' := [(5, .int y40), (4, .int y34), (0, .ref (q 0)), (1, .int p1), (2, .int p2), (3, .int p3)]) hx hb dX6_agree_82 hl (by decide) rfl (fun ls hl => ?_)
            refine lv_iload hx hb dX6_agree_84 (lv_at hl 1 rfl) ?_
            obtain ⟨y43, hy43, hD⟩ := bd_s hD
            refine r_calli (r_runS (As := [.int y34]) (rest := []) X I (c_X2_otherOf l g q _ σ y34 hy43) ks_X2_otherOf ml_X6_176 ⟨Nat.le_of_ble_eq_true rfl, Nat.le_of_ble_eq_true rfl⟩ ⟨Nat.zero_le _, Nat.zero_le _⟩ rfl rfl hl.1 (Nat.le_of_ble_eq_true rfl) dX6_agree_86) I (fun H locs I => ?_)
            refine lv_istore (lv' := [(6, .int y43), (5, .int y40), (4, .int y34), (0, .ref (q 0)), (1, .int p1), (2, .int p2), (3, .int p3)]) hx hb dX6_agree_89 hl (by decide) rfl (fun ls hl => ?_)
            refine lv_iload_n hx hb dX6_agree_91 rfl (lv_at hl 6 rfl) ?_
            refine lv_if_ne (tgt := 107) hx hb dX6_agree_92 (by decide) (fun hc46 => ?_) (fun hc46 => ?_)
            · have hD := ite_n hc46 hD
              refine lv_iload_n hx hb dX6_agree_107 rfl (lv_at hl 6 rfl) ?_
              refine lv_iconst (v := 1) hx hb dX6_agree_108 (by decide) ?_
              refine lv_icmp_ne (tgt := 117) hx hb dX6_agree_109 (by decide) (fun hc49 => ?_) (fun hc49 => ?_)
              · have hD := ite_n hc49 hD
                refine lv_iload hx hb dX6_agree_117 (lv_at hl 0 rfl) ?_
                exact r_iret X I hD dX6_agree_119
              · have hD := ite_p hc49 hD
                refine lv_iload hx hb dX6_agree_112 (lv_at hl 1 rfl) ?_
                refine lv_goto (tgt := 119) hx hb dX6_agree_114 (by decide) ?_
                exact r_iret X I hD dX6_agree_119
            · have hD := ite_p hc46 hD
              refine lv_iload hx hb dX6_agree_95 (lv_at hl 1 rfl) ?_
              obtain ⟨y56, hy56, hD⟩ := bd_s hD
              refine r_calli (r_runS (As := [.int y40]) (rest := []) X I (c_J6_bitCount_0f7a4 l g q _ σ y40 hy56) ks_J6_bitCount_0f7a4 ml_X6_157 ⟨Nat.le_of_ble_eq_true rfl, Nat.le_of_ble_eq_true rfl⟩ ⟨Nat.zero_le _, Nat.zero_le _⟩ rfl rfl hl.1 (Nat.le_of_ble_eq_true rfl) dX6_agree_97) I (fun H locs I => ?_)
              refine lv_iload hx hb dX6_agree_100 (lv_at hl 0 rfl) ?_
              obtain ⟨y58, hy58, hD⟩ := bd_s hD
              refine r_calli (r_runS (As := [.int y43]) (rest := [.int y56]) X I (c_J6_bitCount_0f7a4 l g q _ σ y43 hy58) ks_J6_bitCount_0f7a4 ml_X6_157 ⟨Nat.le_of_ble_eq_true rfl, Nat.le_of_ble_eq_true rfl⟩ ⟨Nat.zero_le _, Nat.zero_le _⟩ rfl rfl hl.1 (Nat.le_of_ble_eq_true rfl) dX6_agree_102) I (fun H locs I => ?_)
              refine lv_iadd hx hb dX6_agree_105 ?_
              exact r_iret X I hD dX6_agree_106
          · have hD := ite_p hc38 hD
            refine lv_bipush (v := -9) hx hb dX6_agree_74 (by decide) ?_
            exact r_iret X I hD dX6_agree_76
        · have hD := ite_p hc21 hD
          refine lv_bipush (v := -2) hx hb dX6_agree_37 (by decide) ?_
          exact r_iret X I hD dX6_agree_39
      · have hD := ite_p hc17 hD
        refine lv_iconst (v := -1) hx hb dX6_agree_27 (by decide) ?_
        exact r_iret X I hD dX6_agree_28
