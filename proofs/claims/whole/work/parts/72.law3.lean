set_option maxRecDepth 100000 in
set_option maxHeartbeats 4000000 in
theorem lc_12 {p : Program} {l : Launch} {e : Env} {s : State} {m : MethodId} {below : List Frame} {meth : Method} {c : Code} {b L i : Nat} {xs : Nat → Int32} {g : Gh} {qc qm : Nat → Nat} {σ τ : St} {H : Heap} {locs : List Loc} {ls : Array Slot} {Q : State → Prop} (X : MX p s m #[Value.ref b] meth c cL_law 4 (some .boolean) RL) (hX : va_X b L xs s s.heap) (hbl : b < s.heap.size) (hL : L ≤ 384) (hi : i + 6 ≤ L) (J : LJ g (eC g qc) qc 23 (eM g qm) qm 22 s σ τ H locs) (hR : Rel σ τ) (hl : lv_has ls 4 [(0, .ref b), (1, .ref (qc 0)), (2, .ref (qm 0)), (3, .int (nI i))]) (kk : ∀ (σ' τ' : St) (H1 : Heap) (locs1 : List Loc), Rel σ' τ' → LJ g (eC g qc) qc 23 (eM g qm) qm 22 s σ' τ' H1 locs1 → W p l e room_1 s m #[Value.ref b] below meth c H1 locs1 100 10000 Q (F0 m 1140 ls [])) : W p l e room_1 s m #[Value.ref b] below meth c H locs 100 10000 Q (F0 m 594 ls []) := by
  have hx := X.1
  have hb := X.2.1
  have hbA : ¬ (fun a : Nat => s.heap.size ≤ a) b := Nat.not_le.mpr hbl
  obtain ⟨r, σ', τ', e1, e2, hR'⟩ := pf_most hR 
  refine lv_aload_n hx hb dL_law_594 rfl (lv_at hl 1 rfl) ?_
  refine l_calli (l_runV (cn := 0) (As := []) (rest := []) X J (c_X6_most l g qc _ _  e1) kv_X6_most ml_L_66 rfl (by decide) (eC_YearDeck g qc _) ⟨Nat.le_of_ble_eq_true rfl, Nat.le_of_ble_eq_true rfl⟩ ⟨Nat.le_of_ble_eq_true rfl, Nat.le_of_ble_eq_true rfl⟩ rfl rfl hl.1 (Nat.le_of_ble_eq_true rfl) dL_law_595) J (fun H locs J => ?_)
  have J := J.swap
  refine lv_aload_n hx hb dL_law_598 rfl (lv_at hl 2 rfl) ?_
  refine l_calli (l_runV (cn := 0) (As := []) (rest := [.int r]) X J (c_X7_most l g qm _ _  e2) kv_X7_most ml_L_70 rfl (by decide) (eM_Model g qm _) ⟨Nat.le_of_ble_eq_true rfl, Nat.le_of_ble_eq_true rfl⟩ ⟨Nat.le_of_ble_eq_true rfl, Nat.le_of_ble_eq_true rfl⟩ rfl rfl hl.1 (Nat.le_of_ble_eq_true rfl) dL_law_599) J (fun H locs J => ?_)
  have J := J.swap
  refine lv_icmp_eq (tgt := 1140) hx hb dL_law_602 (by decide) (fun _ => ?_) (fun c9 => absurd rfl c9)
  exact kk σ' τ' H locs hR' J
set_option maxRecDepth 100000 in
set_option maxHeartbeats 4000000 in
theorem lc_13 {p : Program} {l : Launch} {e : Env} {s : State} {m : MethodId} {below : List Frame} {meth : Method} {c : Code} {b L i : Nat} {xs : Nat → Int32} {g : Gh} {qc qm : Nat → Nat} {σ τ : St} {H : Heap} {locs : List Loc} {ls : Array Slot} {Q : State → Prop} (X : MX p s m #[Value.ref b] meth c cL_law 4 (some .boolean) RL) (hX : va_X b L xs s s.heap) (hbl : b < s.heap.size) (hL : L ≤ 384) (hi : i + 6 ≤ L) (J : LJ g (eC g qc) qc 23 (eM g qm) qm 22 s σ τ H locs) (hR : Rel σ τ) (hl : lv_has ls 4 [(0, .ref b), (1, .ref (qc 0)), (2, .ref (qm 0)), (3, .int (nI i))]) (kk : ∀ (σ' τ' : St) (H1 : Heap) (locs1 : List Loc), Rel σ' τ' → LJ g (eC g qc) qc 23 (eM g qm) qm 22 s σ' τ' H1 locs1 → W p l e room_1 s m #[Value.ref b] below meth c H1 locs1 100 10000 Q (F0 m 1140 ls [])) : W p l e room_1 s m #[Value.ref b] below meth c H locs 100 10000 Q (F0 m 607 ls []) := by
  have hx := X.1
  have hb := X.2.1
  have hbA : ¬ (fun a : Nat => s.heap.size ≤ a) b := Nat.not_le.mpr hbl
  obtain ⟨r, σ', τ', e1, e2, hR'⟩ := pf_reading hR (xs (nI i + 1).toNatClampNeg) (xs (nI i + 2).toNatClampNeg) (xs (nI i + 3).toNatClampNeg)
  refine lv_aload_n hx hb dL_law_607 rfl (lv_at hl 1 rfl) ?_
  refine lv_aload_n hx hb dL_law_608 rfl (lv_at hl 0 rfl) ?_
  refine lv_iload_n hx hb dL_law_609 rfl (lv_at hl 3 rfl) ?_
  refine lv_iconst (v := 1) hx hb dL_law_610 (by decide) ?_
  refine lv_iadd hx hb dL_law_611 ?_
  refine va_sld hx hb hX hbl hbA J.2.2.2.2.2.2 (vp_k (k := 1) hi (by decide) hL) dL_law_612 ?_
  refine lv_aload_n hx hb dL_law_613 rfl (lv_at hl 0 rfl) ?_
  refine lv_iload_n hx hb dL_law_614 rfl (lv_at hl 3 rfl) ?_
  refine lv_iconst (v := 2) hx hb dL_law_615 (by decide) ?_
  refine lv_iadd hx hb dL_law_616 ?_
  refine va_sld hx hb hX hbl hbA J.2.2.2.2.2.2 (vp_k (k := 2) hi (by decide) hL) dL_law_617 ?_
  refine lv_aload_n hx hb dL_law_618 rfl (lv_at hl 0 rfl) ?_
  refine lv_iload_n hx hb dL_law_619 rfl (lv_at hl 3 rfl) ?_
  refine lv_iconst (v := 3) hx hb dL_law_620 (by decide) ?_
  refine lv_iadd hx hb dL_law_621 ?_
  refine va_sld hx hb hX hbl hbA J.2.2.2.2.2.2 (vp_k (k := 3) hi (by decide) hL) dL_law_622 ?_
  refine l_calli (l_runV (cn := 0) (As := [.int (xs (nI i + 1).toNatClampNeg), .int (xs (nI i + 2).toNatClampNeg), .int (xs (nI i + 3).toNatClampNeg)]) (rest := []) X J (c_X6_reading l g qc _ _ (xs (nI i + 1).toNatClampNeg) (xs (nI i + 2).toNatClampNeg) (xs (nI i + 3).toNatClampNeg) e1) kv_X6_reading ml_L_71 rfl (by decide) (eC_YearDeck g qc _) ⟨Nat.le_of_ble_eq_true rfl, Nat.le_of_ble_eq_true rfl⟩ ⟨Nat.le_of_ble_eq_true rfl, Nat.le_of_ble_eq_true rfl⟩ rfl rfl hl.1 (Nat.le_of_ble_eq_true rfl) dL_law_623) J (fun H locs J => ?_)
  have J := J.swap
  refine lv_aload_n hx hb dL_law_626 rfl (lv_at hl 2 rfl) ?_
  refine lv_aload_n hx hb dL_law_627 rfl (lv_at hl 0 rfl) ?_
  refine lv_iload_n hx hb dL_law_628 rfl (lv_at hl 3 rfl) ?_
  refine lv_iconst (v := 1) hx hb dL_law_629 (by decide) ?_
  refine lv_iadd hx hb dL_law_630 ?_
  refine va_sld hx hb hX hbl hbA J.2.2.2.2.2.2 (vp_k (k := 1) hi (by decide) hL) dL_law_631 ?_
  refine lv_aload_n hx hb dL_law_632 rfl (lv_at hl 0 rfl) ?_
  refine lv_iload_n hx hb dL_law_633 rfl (lv_at hl 3 rfl) ?_
  refine lv_iconst (v := 2) hx hb dL_law_634 (by decide) ?_
  refine lv_iadd hx hb dL_law_635 ?_
  refine va_sld hx hb hX hbl hbA J.2.2.2.2.2.2 (vp_k (k := 2) hi (by decide) hL) dL_law_636 ?_
  refine lv_aload_n hx hb dL_law_637 rfl (lv_at hl 0 rfl) ?_
  refine lv_iload_n hx hb dL_law_638 rfl (lv_at hl 3 rfl) ?_
  refine lv_iconst (v := 3) hx hb dL_law_639 (by decide) ?_
  refine lv_iadd hx hb dL_law_640 ?_
  refine va_sld hx hb hX hbl hbA J.2.2.2.2.2.2 (vp_k (k := 3) hi (by decide) hL) dL_law_641 ?_
  refine l_calli (l_runV (cn := 0) (As := [.int (xs (nI i + 1).toNatClampNeg), .int (xs (nI i + 2).toNatClampNeg), .int (xs (nI i + 3).toNatClampNeg)]) (rest := [.int r]) X J (c_X7_reading l g qm _ _ (xs (nI i + 1).toNatClampNeg) (xs (nI i + 2).toNatClampNeg) (xs (nI i + 3).toNatClampNeg) e2) kv_X7_reading ml_L_74 rfl (by decide) (eM_Model g qm _) ⟨Nat.le_of_ble_eq_true rfl, Nat.le_of_ble_eq_true rfl⟩ ⟨Nat.le_of_ble_eq_true rfl, Nat.le_of_ble_eq_true rfl⟩ rfl rfl hl.1 (Nat.le_of_ble_eq_true rfl) dL_law_642) J (fun H locs J => ?_)
  have J := J.swap
  refine lv_icmp_eq (tgt := 1140) hx hb dL_law_645 (by decide) (fun _ => ?_) (fun c9 => absurd rfl c9)
  exact kk σ' τ' H locs hR' J
set_option maxRecDepth 100000 in
set_option maxHeartbeats 4000000 in
theorem lc_14 {p : Program} {l : Launch} {e : Env} {s : State} {m : MethodId} {below : List Frame} {meth : Method} {c : Code} {b L i : Nat} {xs : Nat → Int32} {g : Gh} {qc qm : Nat → Nat} {σ τ : St} {H : Heap} {locs : List Loc} {ls : Array Slot} {Q : State → Prop} (X : MX p s m #[Value.ref b] meth c cL_law 4 (some .boolean) RL) (hX : va_X b L xs s s.heap) (hbl : b < s.heap.size) (hL : L ≤ 384) (hi : i + 6 ≤ L) (J : LJ g (eC g qc) qc 23 (eM g qm) qm 22 s σ τ H locs) (hR : Rel σ τ) (hl : lv_has ls 4 [(0, .ref b), (1, .ref (qc 0)), (2, .ref (qm 0)), (3, .int (nI i))]) (kk : ∀ (σ' τ' : St) (H1 : Heap) (locs1 : List Loc), Rel σ' τ' → LJ g (eC g qc) qc 23 (eM g qm) qm 22 s σ' τ' H1 locs1 → W p l e room_1 s m #[Value.ref b] below meth c H1 locs1 100 10000 Q (F0 m 1140 ls [])) : W p l e room_1 s m #[Value.ref b] below meth c H locs 100 10000 Q (F0 m 650 ls []) := by
  have hx := X.1
  have hb := X.2.1
  have hbA : ¬ (fun a : Nat => s.heap.size ≤ a) b := Nat.not_le.mpr hbl
  obtain ⟨r, σ', τ', e1, e2, hR'⟩ := pf_back hR (xs (nI i + 1).toNatClampNeg)
  refine lv_aload_n hx hb dL_law_650 rfl (lv_at hl 1 rfl) ?_
  refine lv_aload_n hx hb dL_law_651 rfl (lv_at hl 0 rfl) ?_
  refine lv_iload_n hx hb dL_law_652 rfl (lv_at hl 3 rfl) ?_
  refine lv_iconst (v := 1) hx hb dL_law_653 (by decide) ?_
  refine lv_iadd hx hb dL_law_654 ?_
  refine va_sld hx hb hX hbl hbA J.2.2.2.2.2.2 (vp_k (k := 1) hi (by decide) hL) dL_law_655 ?_
  refine l_calli (l_runV (cn := 0) (As := [.int (xs (nI i + 1).toNatClampNeg)]) (rest := []) X J (c_X6_back l g qc _ _ (xs (nI i + 1).toNatClampNeg) e1) kv_X6_back ml_L_75 rfl (by decide) (eC_YearDeck g qc _) ⟨Nat.le_of_ble_eq_true rfl, Nat.le_of_ble_eq_true rfl⟩ ⟨Nat.le_of_ble_eq_true rfl, Nat.le_of_ble_eq_true rfl⟩ rfl rfl hl.1 (Nat.le_of_ble_eq_true rfl) dL_law_656) J (fun H locs J => ?_)
  have J := J.swap
  refine lv_aload_n hx hb dL_law_659 rfl (lv_at hl 2 rfl) ?_
  refine lv_aload_n hx hb dL_law_660 rfl (lv_at hl 0 rfl) ?_
  refine lv_iload_n hx hb dL_law_661 rfl (lv_at hl 3 rfl) ?_
  refine lv_iconst (v := 1) hx hb dL_law_662 (by decide) ?_
  refine lv_iadd hx hb dL_law_663 ?_
  refine va_sld hx hb hX hbl hbA J.2.2.2.2.2.2 (vp_k (k := 1) hi (by decide) hL) dL_law_664 ?_
  refine l_calli (l_runV (cn := 0) (As := [.int (xs (nI i + 1).toNatClampNeg)]) (rest := [.int r]) X J (c_X7_back l g qm _ _ (xs (nI i + 1).toNatClampNeg) e2) kv_X7_back ml_L_78 rfl (by decide) (eM_Model g qm _) ⟨Nat.le_of_ble_eq_true rfl, Nat.le_of_ble_eq_true rfl⟩ ⟨Nat.le_of_ble_eq_true rfl, Nat.le_of_ble_eq_true rfl⟩ rfl rfl hl.1 (Nat.le_of_ble_eq_true rfl) dL_law_665) J (fun H locs J => ?_)
  have J := J.swap
  refine lv_icmp_eq (tgt := 1140) hx hb dL_law_668 (by decide) (fun _ => ?_) (fun c9 => absurd rfl c9)
  exact kk σ' τ' H locs hR' J
set_option maxRecDepth 100000 in
set_option maxHeartbeats 4000000 in
theorem lc_15 {p : Program} {l : Launch} {e : Env} {s : State} {m : MethodId} {below : List Frame} {meth : Method} {c : Code} {b L i : Nat} {xs : Nat → Int32} {g : Gh} {qc qm : Nat → Nat} {σ τ : St} {H : Heap} {locs : List Loc} {ls : Array Slot} {Q : State → Prop} (X : MX p s m #[Value.ref b] meth c cL_law 4 (some .boolean) RL) (hX : va_X b L xs s s.heap) (hbl : b < s.heap.size) (hL : L ≤ 384) (hi : i + 6 ≤ L) (J : LJ g (eC g qc) qc 23 (eM g qm) qm 22 s σ τ H locs) (hR : Rel σ τ) (hl : lv_has ls 4 [(0, .ref b), (1, .ref (qc 0)), (2, .ref (qm 0)), (3, .int (nI i))]) (kk : ∀ (σ' τ' : St) (H1 : Heap) (locs1 : List Loc), Rel σ' τ' → LJ g (eC g qc) qc 23 (eM g qm) qm 22 s σ' τ' H1 locs1 → W p l e room_1 s m #[Value.ref b] below meth c H1 locs1 100 10000 Q (F0 m 1140 ls [])) : W p l e room_1 s m #[Value.ref b] below meth c H locs 100 10000 Q (F0 m 673 ls []) := by
  have hx := X.1
  have hb := X.2.1
  have hbA : ¬ (fun a : Nat => s.heap.size ≤ a) b := Nat.not_le.mpr hbl
  obtain ⟨r, σ', τ', e1, e2, hR'⟩ := pf_slopes hR (xs (nI i + 1).toNatClampNeg)
  refine lv_aload_n hx hb dL_law_673 rfl (lv_at hl 1 rfl) ?_
  refine lv_aload_n hx hb dL_law_674 rfl (lv_at hl 0 rfl) ?_
  refine lv_iload_n hx hb dL_law_675 rfl (lv_at hl 3 rfl) ?_
  refine lv_iconst (v := 1) hx hb dL_law_676 (by decide) ?_
  refine lv_iadd hx hb dL_law_677 ?_
  refine va_sld hx hb hX hbl hbA J.2.2.2.2.2.2 (vp_k (k := 1) hi (by decide) hL) dL_law_678 ?_
  refine l_calli (l_runV (cn := 0) (As := [.int (xs (nI i + 1).toNatClampNeg)]) (rest := []) X J (c_X6_slopes l g qc _ _ (xs (nI i + 1).toNatClampNeg) e1) kv_X6_slopes ml_L_79 rfl (by decide) (eC_YearDeck g qc _) ⟨Nat.le_of_ble_eq_true rfl, Nat.le_of_ble_eq_true rfl⟩ ⟨Nat.le_of_ble_eq_true rfl, Nat.le_of_ble_eq_true rfl⟩ rfl rfl hl.1 (Nat.le_of_ble_eq_true rfl) dL_law_679) J (fun H locs J => ?_)
  have J := J.swap
  refine lv_aload_n hx hb dL_law_682 rfl (lv_at hl 2 rfl) ?_
  refine lv_aload_n hx hb dL_law_683 rfl (lv_at hl 0 rfl) ?_
  refine lv_iload_n hx hb dL_law_684 rfl (lv_at hl 3 rfl) ?_
  refine lv_iconst (v := 1) hx hb dL_law_685 (by decide) ?_
  refine lv_iadd hx hb dL_law_686 ?_
  refine va_sld hx hb hX hbl hbA J.2.2.2.2.2.2 (vp_k (k := 1) hi (by decide) hL) dL_law_687 ?_
  refine l_calli (l_runV (cn := 0) (As := [.int (xs (nI i + 1).toNatClampNeg)]) (rest := [.int r]) X J (c_X7_slopes l g qm _ _ (xs (nI i + 1).toNatClampNeg) e2) kv_X7_slopes ml_L_82 rfl (by decide) (eM_Model g qm _) ⟨Nat.le_of_ble_eq_true rfl, Nat.le_of_ble_eq_true rfl⟩ ⟨Nat.le_of_ble_eq_true rfl, Nat.le_of_ble_eq_true rfl⟩ rfl rfl hl.1 (Nat.le_of_ble_eq_true rfl) dL_law_688) J (fun H locs J => ?_)
  have J := J.swap
  refine lv_icmp_eq (tgt := 1140) hx hb dL_law_691 (by decide) (fun _ => ?_) (fun c9 => absurd rfl c9)
  exact kk σ' τ' H locs hR' J
set_option maxRecDepth 100000 in
set_option maxHeartbeats 4000000 in
theorem lc_16 {p : Program} {l : Launch} {e : Env} {s : State} {m : MethodId} {below : List Frame} {meth : Method} {c : Code} {b L i : Nat} {xs : Nat → Int32} {g : Gh} {qc qm : Nat → Nat} {σ τ : St} {H : Heap} {locs : List Loc} {ls : Array Slot} {Q : State → Prop} (X : MX p s m #[Value.ref b] meth c cL_law 4 (some .boolean) RL) (hX : va_X b L xs s s.heap) (hbl : b < s.heap.size) (hL : L ≤ 384) (hi : i + 6 ≤ L) (J : LJ g (eC g qc) qc 23 (eM g qm) qm 22 s σ τ H locs) (hR : Rel σ τ) (hl : lv_has ls 4 [(0, .ref b), (1, .ref (qc 0)), (2, .ref (qm 0)), (3, .int (nI i))]) (kk : ∀ (σ' τ' : St) (H1 : Heap) (locs1 : List Loc), Rel σ' τ' → LJ g (eC g qc) qc 23 (eM g qm) qm 22 s σ' τ' H1 locs1 → W p l e room_1 s m #[Value.ref b] below meth c H1 locs1 100 10000 Q (F0 m 1140 ls [])) : W p l e room_1 s m #[Value.ref b] below meth c H locs 100 10000 Q (F0 m 696 ls []) := by
  have hx := X.1
  have hb := X.2.1
  have hbA : ¬ (fun a : Nat => s.heap.size ≤ a) b := Nat.not_le.mpr hbl
  obtain ⟨r, σ', τ', e1, e2, hR'⟩ := pf_kinds hR (xs (nI i + 1).toNatClampNeg)
  refine lv_aload_n hx hb dL_law_696 rfl (lv_at hl 1 rfl) ?_
  refine lv_aload_n hx hb dL_law_697 rfl (lv_at hl 0 rfl) ?_
  refine lv_iload_n hx hb dL_law_698 rfl (lv_at hl 3 rfl) ?_
  refine lv_iconst (v := 1) hx hb dL_law_699 (by decide) ?_
  refine lv_iadd hx hb dL_law_700 ?_
  refine va_sld hx hb hX hbl hbA J.2.2.2.2.2.2 (vp_k (k := 1) hi (by decide) hL) dL_law_701 ?_
  refine l_calli (l_runV (cn := 0) (As := [.int (xs (nI i + 1).toNatClampNeg)]) (rest := []) X J (c_X6_kinds l g qc _ _ (xs (nI i + 1).toNatClampNeg) e1) kv_X6_kinds ml_L_83 rfl (by decide) (eC_YearDeck g qc _) ⟨Nat.le_of_ble_eq_true rfl, Nat.le_of_ble_eq_true rfl⟩ ⟨Nat.le_of_ble_eq_true rfl, Nat.le_of_ble_eq_true rfl⟩ rfl rfl hl.1 (Nat.le_of_ble_eq_true rfl) dL_law_702) J (fun H locs J => ?_)
  have J := J.swap
  refine lv_aload_n hx hb dL_law_705 rfl (lv_at hl 2 rfl) ?_
  refine lv_aload_n hx hb dL_law_706 rfl (lv_at hl 0 rfl) ?_
  refine lv_iload_n hx hb dL_law_707 rfl (lv_at hl 3 rfl) ?_
  refine lv_iconst (v := 1) hx hb dL_law_708 (by decide) ?_
  refine lv_iadd hx hb dL_law_709 ?_
  refine va_sld hx hb hX hbl hbA J.2.2.2.2.2.2 (vp_k (k := 1) hi (by decide) hL) dL_law_710 ?_
  refine l_calli (l_runV (cn := 0) (As := [.int (xs (nI i + 1).toNatClampNeg)]) (rest := [.int r]) X J (c_X7_kinds l g qm _ _ (xs (nI i + 1).toNatClampNeg) e2) kv_X7_kinds ml_L_86 rfl (by decide) (eM_Model g qm _) ⟨Nat.le_of_ble_eq_true rfl, Nat.le_of_ble_eq_true rfl⟩ ⟨Nat.le_of_ble_eq_true rfl, Nat.le_of_ble_eq_true rfl⟩ rfl rfl hl.1 (Nat.le_of_ble_eq_true rfl) dL_law_711) J (fun H locs J => ?_)
  have J := J.swap
  refine lv_icmp_eq (tgt := 1140) hx hb dL_law_714 (by decide) (fun _ => ?_) (fun c9 => absurd rfl c9)
  exact kk σ' τ' H locs hR' J
set_option maxRecDepth 100000 in
set_option maxHeartbeats 4000000 in
theorem lc_17 {p : Program} {l : Launch} {e : Env} {s : State} {m : MethodId} {below : List Frame} {meth : Method} {c : Code} {b L i : Nat} {xs : Nat → Int32} {g : Gh} {qc qm : Nat → Nat} {σ τ : St} {H : Heap} {locs : List Loc} {ls : Array Slot} {Q : State → Prop} (X : MX p s m #[Value.ref b] meth c cL_law 4 (some .boolean) RL) (hX : va_X b L xs s s.heap) (hbl : b < s.heap.size) (hL : L ≤ 384) (hi : i + 6 ≤ L) (J : LJ g (eC g qc) qc 23 (eM g qm) qm 22 s σ τ H locs) (hR : Rel σ τ) (hl : lv_has ls 4 [(0, .ref b), (1, .ref (qc 0)), (2, .ref (qm 0)), (3, .int (nI i))]) (kk : ∀ (σ' τ' : St) (H1 : Heap) (locs1 : List Loc), Rel σ' τ' → LJ g (eC g qc) qc 23 (eM g qm) qm 22 s σ' τ' H1 locs1 → W p l e room_1 s m #[Value.ref b] below meth c H1 locs1 100 10000 Q (F0 m 1140 ls [])) : W p l e room_1 s m #[Value.ref b] below meth c H locs 100 10000 Q (F0 m 719 ls []) := by
  have hx := X.1
  have hb := X.2.1
  have hbA : ¬ (fun a : Nat => s.heap.size ≤ a) b := Nat.not_le.mpr hbl
  obtain ⟨r, σ', τ', e1, e2, hR'⟩ := pf_began hR (xs (nI i + 1).toNatClampNeg) (xs (nI i + 2).toNatClampNeg)
  refine lv_aload_n hx hb dL_law_719 rfl (lv_at hl 1 rfl) ?_
  refine lv_aload_n hx hb dL_law_720 rfl (lv_at hl 0 rfl) ?_
  refine lv_iload_n hx hb dL_law_721 rfl (lv_at hl 3 rfl) ?_
  refine lv_iconst (v := 1) hx hb dL_law_722 (by decide) ?_
  refine lv_iadd hx hb dL_law_723 ?_
  refine va_sld hx hb hX hbl hbA J.2.2.2.2.2.2 (vp_k (k := 1) hi (by decide) hL) dL_law_724 ?_
  refine lv_aload_n hx hb dL_law_725 rfl (lv_at hl 0 rfl) ?_
  refine lv_iload_n hx hb dL_law_726 rfl (lv_at hl 3 rfl) ?_
  refine lv_iconst (v := 2) hx hb dL_law_727 (by decide) ?_
  refine lv_iadd hx hb dL_law_728 ?_
  refine va_sld hx hb hX hbl hbA J.2.2.2.2.2.2 (vp_k (k := 2) hi (by decide) hL) dL_law_729 ?_
  refine l_calli (l_runV (cn := 0) (As := [.int (xs (nI i + 1).toNatClampNeg), .int (xs (nI i + 2).toNatClampNeg)]) (rest := []) X J (c_X6_began l g qc _ _ (xs (nI i + 1).toNatClampNeg) (xs (nI i + 2).toNatClampNeg) e1) kv_X6_began ml_L_87 rfl (by decide) (eC_YearDeck g qc _) ⟨Nat.le_of_ble_eq_true rfl, Nat.le_of_ble_eq_true rfl⟩ ⟨Nat.le_of_ble_eq_true rfl, Nat.le_of_ble_eq_true rfl⟩ rfl rfl hl.1 (Nat.le_of_ble_eq_true rfl) dL_law_730) J (fun H locs J => ?_)
  have J := J.swap
  refine lv_aload_n hx hb dL_law_733 rfl (lv_at hl 2 rfl) ?_
  refine lv_aload_n hx hb dL_law_734 rfl (lv_at hl 0 rfl) ?_
  refine lv_iload_n hx hb dL_law_735 rfl (lv_at hl 3 rfl) ?_
  refine lv_iconst (v := 1) hx hb dL_law_736 (by decide) ?_
  refine lv_iadd hx hb dL_law_737 ?_
  refine va_sld hx hb hX hbl hbA J.2.2.2.2.2.2 (vp_k (k := 1) hi (by decide) hL) dL_law_738 ?_
  refine lv_aload_n hx hb dL_law_739 rfl (lv_at hl 0 rfl) ?_
  refine lv_iload_n hx hb dL_law_740 rfl (lv_at hl 3 rfl) ?_
  refine lv_iconst (v := 2) hx hb dL_law_741 (by decide) ?_
  refine lv_iadd hx hb dL_law_742 ?_
  refine va_sld hx hb hX hbl hbA J.2.2.2.2.2.2 (vp_k (k := 2) hi (by decide) hL) dL_law_743 ?_
  refine l_calli (l_runV (cn := 0) (As := [.int (xs (nI i + 1).toNatClampNeg), .int (xs (nI i + 2).toNatClampNeg)]) (rest := [.int r]) X J (c_X7_began l g qm _ _ (xs (nI i + 1).toNatClampNeg) (xs (nI i + 2).toNatClampNeg) e2) kv_X7_began ml_L_90 rfl (by decide) (eM_Model g qm _) ⟨Nat.le_of_ble_eq_true rfl, Nat.le_of_ble_eq_true rfl⟩ ⟨Nat.le_of_ble_eq_true rfl, Nat.le_of_ble_eq_true rfl⟩ rfl rfl hl.1 (Nat.le_of_ble_eq_true rfl) dL_law_744) J (fun H locs J => ?_)
  have J := J.swap
  refine lv_icmp_eq (tgt := 1140) hx hb dL_law_747 (by decide) (fun _ => ?_) (fun c9 => absurd rfl c9)
  exact kk σ' τ' H locs hR' J
set_option maxRecDepth 100000 in
set_option maxHeartbeats 4000000 in
theorem lc_18 {p : Program} {l : Launch} {e : Env} {s : State} {m : MethodId} {below : List Frame} {meth : Method} {c : Code} {b L i : Nat} {xs : Nat → Int32} {g : Gh} {qc qm : Nat → Nat} {σ τ : St} {H : Heap} {locs : List Loc} {ls : Array Slot} {Q : State → Prop} (X : MX p s m #[Value.ref b] meth c cL_law 4 (some .boolean) RL) (hX : va_X b L xs s s.heap) (hbl : b < s.heap.size) (hL : L ≤ 384) (hi : i + 6 ≤ L) (J : LJ g (eC g qc) qc 23 (eM g qm) qm 22 s σ τ H locs) (hR : Rel σ τ) (hl : lv_has ls 4 [(0, .ref b), (1, .ref (qc 0)), (2, .ref (qm 0)), (3, .int (nI i))]) (kk : ∀ (σ' τ' : St) (H1 : Heap) (locs1 : List Loc), Rel σ' τ' → LJ g (eC g qc) qc 23 (eM g qm) qm 22 s σ' τ' H1 locs1 → W p l e room_1 s m #[Value.ref b] below meth c H1 locs1 100 10000 Q (F0 m 1140 ls [])) : W p l e room_1 s m #[Value.ref b] below meth c H locs 100 10000 Q (F0 m 752 ls []) := by
  have hx := X.1
  have hb := X.2.1
  have hbA : ¬ (fun a : Nat => s.heap.size ≤ a) b := Nat.not_le.mpr hbl
  obtain ⟨r, e1, e2⟩ := pf_odds hR (xs (nI i + 1).toNatClampNeg) (xs (nI i + 2).toNatClampNeg) (xs (nI i + 3).toNatClampNeg)
  refine lv_aload_n hx hb dL_law_752 rfl (lv_at hl 1 rfl) ?_
  refine lv_aload_n hx hb dL_law_753 rfl (lv_at hl 0 rfl) ?_
  refine lv_iload_n hx hb dL_law_754 rfl (lv_at hl 3 rfl) ?_
  refine lv_iconst (v := 1) hx hb dL_law_755 (by decide) ?_
  refine lv_iadd hx hb dL_law_756 ?_
  refine va_sld hx hb hX hbl hbA J.2.2.2.2.2.2 (vp_k (k := 1) hi (by decide) hL) dL_law_757 ?_
  refine lv_aload_n hx hb dL_law_758 rfl (lv_at hl 0 rfl) ?_
  refine lv_iload_n hx hb dL_law_759 rfl (lv_at hl 3 rfl) ?_
  refine lv_iconst (v := 2) hx hb dL_law_760 (by decide) ?_
  refine lv_iadd hx hb dL_law_761 ?_
  refine va_sld hx hb hX hbl hbA J.2.2.2.2.2.2 (vp_k (k := 2) hi (by decide) hL) dL_law_762 ?_
  refine lv_aload_n hx hb dL_law_763 rfl (lv_at hl 0 rfl) ?_
  refine lv_iload_n hx hb dL_law_764 rfl (lv_at hl 3 rfl) ?_
  refine lv_iconst (v := 3) hx hb dL_law_765 (by decide) ?_
  refine lv_iadd hx hb dL_law_766 ?_
  refine va_sld hx hb hX hbl hbA J.2.2.2.2.2.2 (vp_k (k := 3) hi (by decide) hL) dL_law_767 ?_
  refine l_calll (l_runV (cn := 0) (As := [.int (xs (nI i + 1).toNatClampNeg), .int (xs (nI i + 2).toNatClampNeg), .int (xs (nI i + 3).toNatClampNeg)]) (rest := []) X J (c_X6_odds l g qc _ _ (xs (nI i + 1).toNatClampNeg) (xs (nI i + 2).toNatClampNeg) (xs (nI i + 3).toNatClampNeg) e1) kv_X6_odds ml_L_91 rfl (by decide) (eC_YearDeck g qc _) ⟨Nat.le_of_ble_eq_true rfl, Nat.le_of_ble_eq_true rfl⟩ ⟨Nat.le_of_ble_eq_true rfl, Nat.le_of_ble_eq_true rfl⟩ rfl rfl hl.1 (Nat.le_of_ble_eq_true rfl) dL_law_768) J (fun H locs J => ?_)
  have J := J.swap
  refine lv_aload_n hx hb dL_law_771 rfl (lv_at hl 2 rfl) ?_
  refine lv_aload_n hx hb dL_law_772 rfl (lv_at hl 0 rfl) ?_
  refine lv_iload_n hx hb dL_law_773 rfl (lv_at hl 3 rfl) ?_
  refine lv_iconst (v := 1) hx hb dL_law_774 (by decide) ?_
  refine lv_iadd hx hb dL_law_775 ?_
  refine va_sld hx hb hX hbl hbA J.2.2.2.2.2.2 (vp_k (k := 1) hi (by decide) hL) dL_law_776 ?_
  refine lv_aload_n hx hb dL_law_777 rfl (lv_at hl 0 rfl) ?_
  refine lv_iload_n hx hb dL_law_778 rfl (lv_at hl 3 rfl) ?_
  refine lv_iconst (v := 2) hx hb dL_law_779 (by decide) ?_
  refine lv_iadd hx hb dL_law_780 ?_
  refine va_sld hx hb hX hbl hbA J.2.2.2.2.2.2 (vp_k (k := 2) hi (by decide) hL) dL_law_781 ?_
  refine lv_aload_n hx hb dL_law_782 rfl (lv_at hl 0 rfl) ?_
  refine lv_iload_n hx hb dL_law_783 rfl (lv_at hl 3 rfl) ?_
  refine lv_iconst (v := 3) hx hb dL_law_784 (by decide) ?_
  refine lv_iadd hx hb dL_law_785 ?_
  refine va_sld hx hb hX hbl hbA J.2.2.2.2.2.2 (vp_k (k := 3) hi (by decide) hL) dL_law_786 ?_
  refine l_calll (l_runV (cn := 0) (As := [.int (xs (nI i + 1).toNatClampNeg), .int (xs (nI i + 2).toNatClampNeg), .int (xs (nI i + 3).toNatClampNeg)]) (rest := [.long r]) X J (c_X7_odds l g qm _ _ (xs (nI i + 1).toNatClampNeg) (xs (nI i + 2).toNatClampNeg) (xs (nI i + 3).toNatClampNeg) e2) kv_X7_odds ml_L_95 rfl (by decide) (eM_Model g qm _) ⟨Nat.le_of_ble_eq_true rfl, Nat.le_of_ble_eq_true rfl⟩ ⟨Nat.le_of_ble_eq_true rfl, Nat.le_of_ble_eq_true rfl⟩ rfl rfl hl.1 (Nat.le_of_ble_eq_true rfl) dL_law_787) J (fun H locs J => ?_)
  have J := J.swap
  refine W.lcmp hx hb dL_law_790 ?_
  refine lv_if_eq (tgt := 1140) hx hb dL_law_791 (by decide) (fun _ => ?_) (fun c9 => absurd (lc_self r) c9)
  exact kk σ τ H locs hR J
set_option maxRecDepth 100000 in
set_option maxHeartbeats 4000000 in
theorem lc_19 {p : Program} {l : Launch} {e : Env} {s : State} {m : MethodId} {below : List Frame} {meth : Method} {c : Code} {b L i : Nat} {xs : Nat → Int32} {g : Gh} {qc qm : Nat → Nat} {σ τ : St} {H : Heap} {locs : List Loc} {ls : Array Slot} {Q : State → Prop} (X : MX p s m #[Value.ref b] meth c cL_law 4 (some .boolean) RL) (hX : va_X b L xs s s.heap) (hbl : b < s.heap.size) (hL : L ≤ 384) (hi : i + 6 ≤ L) (J : LJ g (eC g qc) qc 23 (eM g qm) qm 22 s σ τ H locs) (hR : Rel σ τ) (hl : lv_has ls 4 [(0, .ref b), (1, .ref (qc 0)), (2, .ref (qm 0)), (3, .int (nI i))]) (kk : ∀ (σ' τ' : St) (H1 : Heap) (locs1 : List Loc), Rel σ' τ' → LJ g (eC g qc) qc 23 (eM g qm) qm 22 s σ' τ' H1 locs1 → W p l e room_1 s m #[Value.ref b] below meth c H1 locs1 100 10000 Q (F0 m 1140 ls [])) : W p l e room_1 s m #[Value.ref b] below meth c H locs 100 10000 Q (F0 m 796 ls []) := by
  have hx := X.1
  have hb := X.2.1
  have hbA : ¬ (fun a : Nat => s.heap.size ≤ a) b := Nat.not_le.mpr hbl
  obtain ⟨r, σ', τ', e1, e2, hR'⟩ := pf_sheet hR (xs (nI i + 1).toNatClampNeg) (xs (nI i + 2).toNatClampNeg) (xs (nI i + 3).toNatClampNeg)
  refine lv_aload_n hx hb dL_law_796 rfl (lv_at hl 1 rfl) ?_
  refine lv_aload_n hx hb dL_law_797 rfl (lv_at hl 0 rfl) ?_
  refine lv_iload_n hx hb dL_law_798 rfl (lv_at hl 3 rfl) ?_
  refine lv_iconst (v := 1) hx hb dL_law_799 (by decide) ?_
  refine lv_iadd hx hb dL_law_800 ?_
  refine va_sld hx hb hX hbl hbA J.2.2.2.2.2.2 (vp_k (k := 1) hi (by decide) hL) dL_law_801 ?_
  refine lv_aload_n hx hb dL_law_802 rfl (lv_at hl 0 rfl) ?_
  refine lv_iload_n hx hb dL_law_803 rfl (lv_at hl 3 rfl) ?_
  refine lv_iconst (v := 2) hx hb dL_law_804 (by decide) ?_
  refine lv_iadd hx hb dL_law_805 ?_
  refine va_sld hx hb hX hbl hbA J.2.2.2.2.2.2 (vp_k (k := 2) hi (by decide) hL) dL_law_806 ?_
  refine lv_aload_n hx hb dL_law_807 rfl (lv_at hl 0 rfl) ?_
  refine lv_iload_n hx hb dL_law_808 rfl (lv_at hl 3 rfl) ?_
  refine lv_iconst (v := 3) hx hb dL_law_809 (by decide) ?_
  refine lv_iadd hx hb dL_law_810 ?_
  refine va_sld hx hb hX hbl hbA J.2.2.2.2.2.2 (vp_k (k := 3) hi (by decide) hL) dL_law_811 ?_
  refine l_calli (l_runV (cn := 0) (As := [.int (xs (nI i + 1).toNatClampNeg), .int (xs (nI i + 2).toNatClampNeg), .int (xs (nI i + 3).toNatClampNeg)]) (rest := []) X J (c_X6_sheet l g qc _ _ (xs (nI i + 1).toNatClampNeg) (xs (nI i + 2).toNatClampNeg) (xs (nI i + 3).toNatClampNeg) e1) kv_X6_sheet ml_L_96 rfl (by decide) (eC_YearDeck g qc _) ⟨Nat.le_of_ble_eq_true rfl, Nat.le_of_ble_eq_true rfl⟩ ⟨Nat.le_of_ble_eq_true rfl, Nat.le_of_ble_eq_true rfl⟩ rfl rfl hl.1 (Nat.le_of_ble_eq_true rfl) dL_law_812) J (fun H locs J => ?_)
  have J := J.swap
  refine lv_aload_n hx hb dL_law_815 rfl (lv_at hl 2 rfl) ?_
  refine lv_aload_n hx hb dL_law_816 rfl (lv_at hl 0 rfl) ?_
  refine lv_iload_n hx hb dL_law_817 rfl (lv_at hl 3 rfl) ?_
  refine lv_iconst (v := 1) hx hb dL_law_818 (by decide) ?_
  refine lv_iadd hx hb dL_law_819 ?_
  refine va_sld hx hb hX hbl hbA J.2.2.2.2.2.2 (vp_k (k := 1) hi (by decide) hL) dL_law_820 ?_
  refine lv_aload_n hx hb dL_law_821 rfl (lv_at hl 0 rfl) ?_
  refine lv_iload_n hx hb dL_law_822 rfl (lv_at hl 3 rfl) ?_
  refine lv_iconst (v := 2) hx hb dL_law_823 (by decide) ?_
  refine lv_iadd hx hb dL_law_824 ?_
  refine va_sld hx hb hX hbl hbA J.2.2.2.2.2.2 (vp_k (k := 2) hi (by decide) hL) dL_law_825 ?_
  refine lv_aload_n hx hb dL_law_826 rfl (lv_at hl 0 rfl) ?_
  refine lv_iload_n hx hb dL_law_827 rfl (lv_at hl 3 rfl) ?_
  refine lv_iconst (v := 3) hx hb dL_law_828 (by decide) ?_
  refine lv_iadd hx hb dL_law_829 ?_
  refine va_sld hx hb hX hbl hbA J.2.2.2.2.2.2 (vp_k (k := 3) hi (by decide) hL) dL_law_830 ?_
  refine l_calli (l_runV (cn := 0) (As := [.int (xs (nI i + 1).toNatClampNeg), .int (xs (nI i + 2).toNatClampNeg), .int (xs (nI i + 3).toNatClampNeg)]) (rest := [.int r]) X J (c_X7_sheet l g qm _ _ (xs (nI i + 1).toNatClampNeg) (xs (nI i + 2).toNatClampNeg) (xs (nI i + 3).toNatClampNeg) e2) kv_X7_sheet ml_L_99 rfl (by decide) (eM_Model g qm _) ⟨Nat.le_of_ble_eq_true rfl, Nat.le_of_ble_eq_true rfl⟩ ⟨Nat.le_of_ble_eq_true rfl, Nat.le_of_ble_eq_true rfl⟩ rfl rfl hl.1 (Nat.le_of_ble_eq_true rfl) dL_law_831) J (fun H locs J => ?_)
  have J := J.swap
  refine lv_icmp_eq (tgt := 1140) hx hb dL_law_834 (by decide) (fun _ => ?_) (fun c9 => absurd rfl c9)
  exact kk σ' τ' H locs hR' J
set_option maxRecDepth 100000 in
set_option maxHeartbeats 4000000 in
theorem lc_20 {p : Program} {l : Launch} {e : Env} {s : State} {m : MethodId} {below : List Frame} {meth : Method} {c : Code} {b L i : Nat} {xs : Nat → Int32} {g : Gh} {qc qm : Nat → Nat} {σ τ : St} {H : Heap} {locs : List Loc} {ls : Array Slot} {Q : State → Prop} (X : MX p s m #[Value.ref b] meth c cL_law 4 (some .boolean) RL) (hX : va_X b L xs s s.heap) (hbl : b < s.heap.size) (hL : L ≤ 384) (hi : i + 6 ≤ L) (J : LJ g (eC g qc) qc 23 (eM g qm) qm 22 s σ τ H locs) (hR : Rel σ τ) (hl : lv_has ls 4 [(0, .ref b), (1, .ref (qc 0)), (2, .ref (qm 0)), (3, .int (nI i))]) (kk : ∀ (σ' τ' : St) (H1 : Heap) (locs1 : List Loc), Rel σ' τ' → LJ g (eC g qc) qc 23 (eM g qm) qm 22 s σ' τ' H1 locs1 → W p l e room_1 s m #[Value.ref b] below meth c H1 locs1 100 10000 Q (F0 m 1140 ls [])) : W p l e room_1 s m #[Value.ref b] below meth c H locs 100 10000 Q (F0 m 839 ls []) := by
  have hx := X.1
  have hb := X.2.1
  have hbA : ¬ (fun a : Nat => s.heap.size ≤ a) b := Nat.not_le.mpr hbl
  obtain ⟨r, σ', τ', e1, e2, hR'⟩ := pf_lose hR (xs (nI i + 1).toNatClampNeg)
  refine lv_aload_n hx hb dL_law_839 rfl (lv_at hl 1 rfl) ?_
  refine lv_aload_n hx hb dL_law_840 rfl (lv_at hl 0 rfl) ?_
  refine lv_iload_n hx hb dL_law_841 rfl (lv_at hl 3 rfl) ?_
  refine lv_iconst (v := 1) hx hb dL_law_842 (by decide) ?_
  refine lv_iadd hx hb dL_law_843 ?_
  refine va_sld hx hb hX hbl hbA J.2.2.2.2.2.2 (vp_k (k := 1) hi (by decide) hL) dL_law_844 ?_
  refine l_calli (l_runV (cn := 0) (As := [.int (xs (nI i + 1).toNatClampNeg)]) (rest := []) X J (c_X6_lose l g qc _ _ (xs (nI i + 1).toNatClampNeg) e1) kv_X6_lose ml_L_100 rfl (by decide) (eC_YearDeck g qc _) ⟨Nat.le_of_ble_eq_true rfl, Nat.le_of_ble_eq_true rfl⟩ ⟨Nat.le_of_ble_eq_true rfl, Nat.le_of_ble_eq_true rfl⟩ rfl rfl hl.1 (Nat.le_of_ble_eq_true rfl) dL_law_845) J (fun H locs J => ?_)
  have J := J.swap
  refine lv_aload_n hx hb dL_law_848 rfl (lv_at hl 2 rfl) ?_
  refine lv_aload_n hx hb dL_law_849 rfl (lv_at hl 0 rfl) ?_
  refine lv_iload_n hx hb dL_law_850 rfl (lv_at hl 3 rfl) ?_
  refine lv_iconst (v := 1) hx hb dL_law_851 (by decide) ?_
  refine lv_iadd hx hb dL_law_852 ?_
  refine va_sld hx hb hX hbl hbA J.2.2.2.2.2.2 (vp_k (k := 1) hi (by decide) hL) dL_law_853 ?_
  refine l_calli (l_runV (cn := 0) (As := [.int (xs (nI i + 1).toNatClampNeg)]) (rest := [.int r]) X J (c_X7_lose l g qm _ _ (xs (nI i + 1).toNatClampNeg) e2) kv_X7_lose ml_L_103 rfl (by decide) (eM_Model g qm _) ⟨Nat.le_of_ble_eq_true rfl, Nat.le_of_ble_eq_true rfl⟩ ⟨Nat.le_of_ble_eq_true rfl, Nat.le_of_ble_eq_true rfl⟩ rfl rfl hl.1 (Nat.le_of_ble_eq_true rfl) dL_law_854) J (fun H locs J => ?_)
  have J := J.swap
  refine lv_icmp_eq (tgt := 1140) hx hb dL_law_857 (by decide) (fun _ => ?_) (fun c9 => absurd rfl c9)
  exact kk σ' τ' H locs hR' J
set_option maxRecDepth 100000 in
set_option maxHeartbeats 4000000 in
theorem lc_21 {p : Program} {l : Launch} {e : Env} {s : State} {m : MethodId} {below : List Frame} {meth : Method} {c : Code} {b L i : Nat} {xs : Nat → Int32} {g : Gh} {qc qm : Nat → Nat} {σ τ : St} {H : Heap} {locs : List Loc} {ls : Array Slot} {Q : State → Prop} (X : MX p s m #[Value.ref b] meth c cL_law 4 (some .boolean) RL) (hX : va_X b L xs s s.heap) (hbl : b < s.heap.size) (hL : L ≤ 384) (hi : i + 6 ≤ L) (J : LJ g (eC g qc) qc 23 (eM g qm) qm 22 s σ τ H locs) (hR : Rel σ τ) (hl : lv_has ls 4 [(0, .ref b), (1, .ref (qc 0)), (2, .ref (qm 0)), (3, .int (nI i))]) (kk : ∀ (σ' τ' : St) (H1 : Heap) (locs1 : List Loc), Rel σ' τ' → LJ g (eC g qc) qc 23 (eM g qm) qm 22 s σ' τ' H1 locs1 → W p l e room_1 s m #[Value.ref b] below meth c H1 locs1 100 10000 Q (F0 m 1140 ls [])) : W p l e room_1 s m #[Value.ref b] below meth c H locs 100 10000 Q (F0 m 862 ls []) := by
  have hx := X.1
  have hb := X.2.1
  have hbA : ¬ (fun a : Nat => s.heap.size ≤ a) b := Nat.not_le.mpr hbl
  obtain ⟨r, σ', τ', e1, e2, hR'⟩ := pf_put hR (xs (nI i + 1).toNatClampNeg) (xs (nI i + 2).toNatClampNeg) (xs (nI i + 3).toNatClampNeg)
  refine lv_aload_n hx hb dL_law_862 rfl (lv_at hl 1 rfl) ?_
  refine lv_aload_n hx hb dL_law_863 rfl (lv_at hl 0 rfl) ?_
  refine lv_iload_n hx hb dL_law_864 rfl (lv_at hl 3 rfl) ?_
  refine lv_iconst (v := 1) hx hb dL_law_865 (by decide) ?_
  refine lv_iadd hx hb dL_law_866 ?_
  refine va_sld hx hb hX hbl hbA J.2.2.2.2.2.2 (vp_k (k := 1) hi (by decide) hL) dL_law_867 ?_
  refine lv_aload_n hx hb dL_law_868 rfl (lv_at hl 0 rfl) ?_
  refine lv_iload_n hx hb dL_law_869 rfl (lv_at hl 3 rfl) ?_
  refine lv_iconst (v := 2) hx hb dL_law_870 (by decide) ?_
  refine lv_iadd hx hb dL_law_871 ?_
  refine va_sld hx hb hX hbl hbA J.2.2.2.2.2.2 (vp_k (k := 2) hi (by decide) hL) dL_law_872 ?_
  refine lv_aload_n hx hb dL_law_873 rfl (lv_at hl 0 rfl) ?_
  refine lv_iload_n hx hb dL_law_874 rfl (lv_at hl 3 rfl) ?_
  refine lv_iconst (v := 3) hx hb dL_law_875 (by decide) ?_
  refine lv_iadd hx hb dL_law_876 ?_
  refine va_sld hx hb hX hbl hbA J.2.2.2.2.2.2 (vp_k (k := 3) hi (by decide) hL) dL_law_877 ?_
  refine l_calli (l_runV (cn := 0) (As := [.int (xs (nI i + 1).toNatClampNeg), .int (xs (nI i + 2).toNatClampNeg), .int (xs (nI i + 3).toNatClampNeg)]) (rest := []) X J (c_X6_put l g qc _ _ (xs (nI i + 1).toNatClampNeg) (xs (nI i + 2).toNatClampNeg) (xs (nI i + 3).toNatClampNeg) e1) kv_X6_put ml_L_104 rfl (by decide) (eC_YearDeck g qc _) ⟨Nat.le_of_ble_eq_true rfl, Nat.le_of_ble_eq_true rfl⟩ ⟨Nat.le_of_ble_eq_true rfl, Nat.le_of_ble_eq_true rfl⟩ rfl rfl hl.1 (Nat.le_of_ble_eq_true rfl) dL_law_878) J (fun H locs J => ?_)
  have J := J.swap
  refine lv_aload_n hx hb dL_law_881 rfl (lv_at hl 2 rfl) ?_
  refine lv_aload_n hx hb dL_law_882 rfl (lv_at hl 0 rfl) ?_
  refine lv_iload_n hx hb dL_law_883 rfl (lv_at hl 3 rfl) ?_
  refine lv_iconst (v := 1) hx hb dL_law_884 (by decide) ?_
  refine lv_iadd hx hb dL_law_885 ?_
  refine va_sld hx hb hX hbl hbA J.2.2.2.2.2.2 (vp_k (k := 1) hi (by decide) hL) dL_law_886 ?_
  refine lv_aload_n hx hb dL_law_887 rfl (lv_at hl 0 rfl) ?_
  refine lv_iload_n hx hb dL_law_888 rfl (lv_at hl 3 rfl) ?_
  refine lv_iconst (v := 2) hx hb dL_law_889 (by decide) ?_
  refine lv_iadd hx hb dL_law_890 ?_
  refine va_sld hx hb hX hbl hbA J.2.2.2.2.2.2 (vp_k (k := 2) hi (by decide) hL) dL_law_891 ?_
  refine lv_aload_n hx hb dL_law_892 rfl (lv_at hl 0 rfl) ?_
  refine lv_iload_n hx hb dL_law_893 rfl (lv_at hl 3 rfl) ?_
  refine lv_iconst (v := 3) hx hb dL_law_894 (by decide) ?_
  refine lv_iadd hx hb dL_law_895 ?_
  refine va_sld hx hb hX hbl hbA J.2.2.2.2.2.2 (vp_k (k := 3) hi (by decide) hL) dL_law_896 ?_
  refine l_calli (l_runV (cn := 0) (As := [.int (xs (nI i + 1).toNatClampNeg), .int (xs (nI i + 2).toNatClampNeg), .int (xs (nI i + 3).toNatClampNeg)]) (rest := [.int r]) X J (c_X7_put l g qm _ _ (xs (nI i + 1).toNatClampNeg) (xs (nI i + 2).toNatClampNeg) (xs (nI i + 3).toNatClampNeg) e2) kv_X7_put ml_L_107 rfl (by decide) (eM_Model g qm _) ⟨Nat.le_of_ble_eq_true rfl, Nat.le_of_ble_eq_true rfl⟩ ⟨Nat.le_of_ble_eq_true rfl, Nat.le_of_ble_eq_true rfl⟩ rfl rfl hl.1 (Nat.le_of_ble_eq_true rfl) dL_law_897) J (fun H locs J => ?_)
  have J := J.swap
  refine lv_icmp_eq (tgt := 1140) hx hb dL_law_900 (by decide) (fun _ => ?_) (fun c9 => absurd rfl c9)
  exact kk σ' τ' H locs hR' J
set_option maxRecDepth 100000 in
set_option maxHeartbeats 4000000 in
theorem lc_22 {p : Program} {l : Launch} {e : Env} {s : State} {m : MethodId} {below : List Frame} {meth : Method} {c : Code} {b L i : Nat} {xs : Nat → Int32} {g : Gh} {qc qm : Nat → Nat} {σ τ : St} {H : Heap} {locs : List Loc} {ls : Array Slot} {Q : State → Prop} (X : MX p s m #[Value.ref b] meth c cL_law 4 (some .boolean) RL) (hX : va_X b L xs s s.heap) (hbl : b < s.heap.size) (hL : L ≤ 384) (hi : i + 6 ≤ L) (J : LJ g (eC g qc) qc 23 (eM g qm) qm 22 s σ τ H locs) (hR : Rel σ τ) (hl : lv_has ls 4 [(0, .ref b), (1, .ref (qc 0)), (2, .ref (qm 0)), (3, .int (nI i))]) (kk : ∀ (σ' τ' : St) (H1 : Heap) (locs1 : List Loc), Rel σ' τ' → LJ g (eC g qc) qc 23 (eM g qm) qm 22 s σ' τ' H1 locs1 → W p l e room_1 s m #[Value.ref b] below meth c H1 locs1 100 10000 Q (F0 m 1140 ls [])) : W p l e room_1 s m #[Value.ref b] below meth c H locs 100 10000 Q (F0 m 905 ls []) := by
  have hx := X.1
  have hb := X.2.1
  have hbA : ¬ (fun a : Nat => s.heap.size ≤ a) b := Nat.not_le.mpr hbl
  obtain ⟨r, σ', τ', e1, e2, hR'⟩ := pf_cell hR (xs (nI i + 1).toNatClampNeg) (xs (nI i + 2).toNatClampNeg) (xs (nI i + 3).toNatClampNeg)
  refine lv_aload_n hx hb dL_law_905 rfl (lv_at hl 1 rfl) ?_
  refine lv_aload_n hx hb dL_law_906 rfl (lv_at hl 0 rfl) ?_
  refine lv_iload_n hx hb dL_law_907 rfl (lv_at hl 3 rfl) ?_
  refine lv_iconst (v := 1) hx hb dL_law_908 (by decide) ?_
  refine lv_iadd hx hb dL_law_909 ?_
  refine va_sld hx hb hX hbl hbA J.2.2.2.2.2.2 (vp_k (k := 1) hi (by decide) hL) dL_law_910 ?_
  refine lv_aload_n hx hb dL_law_911 rfl (lv_at hl 0 rfl) ?_
  refine lv_iload_n hx hb dL_law_912 rfl (lv_at hl 3 rfl) ?_
  refine lv_iconst (v := 2) hx hb dL_law_913 (by decide) ?_
  refine lv_iadd hx hb dL_law_914 ?_
  refine va_sld hx hb hX hbl hbA J.2.2.2.2.2.2 (vp_k (k := 2) hi (by decide) hL) dL_law_915 ?_
  refine lv_aload_n hx hb dL_law_916 rfl (lv_at hl 0 rfl) ?_
  refine lv_iload_n hx hb dL_law_917 rfl (lv_at hl 3 rfl) ?_
  refine lv_iconst (v := 3) hx hb dL_law_918 (by decide) ?_
  refine lv_iadd hx hb dL_law_919 ?_
  refine va_sld hx hb hX hbl hbA J.2.2.2.2.2.2 (vp_k (k := 3) hi (by decide) hL) dL_law_920 ?_
  refine l_calll (l_runV (cn := 0) (As := [.int (xs (nI i + 1).toNatClampNeg), .int (xs (nI i + 2).toNatClampNeg), .int (xs (nI i + 3).toNatClampNeg)]) (rest := []) X J (c_X6_cell l g qc _ _ (xs (nI i + 1).toNatClampNeg) (xs (nI i + 2).toNatClampNeg) (xs (nI i + 3).toNatClampNeg) e1) kv_X6_cell ml_L_108 rfl (by decide) (eC_YearDeck g qc _) ⟨Nat.le_of_ble_eq_true rfl, Nat.le_of_ble_eq_true rfl⟩ ⟨Nat.le_of_ble_eq_true rfl, Nat.le_of_ble_eq_true rfl⟩ rfl rfl hl.1 (Nat.le_of_ble_eq_true rfl) dL_law_921) J (fun H locs J => ?_)
  have J := J.swap
  refine lv_aload_n hx hb dL_law_924 rfl (lv_at hl 2 rfl) ?_
  refine lv_aload_n hx hb dL_law_925 rfl (lv_at hl 0 rfl) ?_
  refine lv_iload_n hx hb dL_law_926 rfl (lv_at hl 3 rfl) ?_
  refine lv_iconst (v := 1) hx hb dL_law_927 (by decide) ?_
  refine lv_iadd hx hb dL_law_928 ?_
  refine va_sld hx hb hX hbl hbA J.2.2.2.2.2.2 (vp_k (k := 1) hi (by decide) hL) dL_law_929 ?_
  refine lv_aload_n hx hb dL_law_930 rfl (lv_at hl 0 rfl) ?_
  refine lv_iload_n hx hb dL_law_931 rfl (lv_at hl 3 rfl) ?_
  refine lv_iconst (v := 2) hx hb dL_law_932 (by decide) ?_
  refine lv_iadd hx hb dL_law_933 ?_
  refine va_sld hx hb hX hbl hbA J.2.2.2.2.2.2 (vp_k (k := 2) hi (by decide) hL) dL_law_934 ?_
  refine lv_aload_n hx hb dL_law_935 rfl (lv_at hl 0 rfl) ?_
  refine lv_iload_n hx hb dL_law_936 rfl (lv_at hl 3 rfl) ?_
  refine lv_iconst (v := 3) hx hb dL_law_937 (by decide) ?_
  refine lv_iadd hx hb dL_law_938 ?_
  refine va_sld hx hb hX hbl hbA J.2.2.2.2.2.2 (vp_k (k := 3) hi (by decide) hL) dL_law_939 ?_
  refine l_calll (l_runV (cn := 0) (As := [.int (xs (nI i + 1).toNatClampNeg), .int (xs (nI i + 2).toNatClampNeg), .int (xs (nI i + 3).toNatClampNeg)]) (rest := [.long r]) X J (c_X7_cell l g qm _ _ (xs (nI i + 1).toNatClampNeg) (xs (nI i + 2).toNatClampNeg) (xs (nI i + 3).toNatClampNeg) e2) kv_X7_cell ml_L_111 rfl (by decide) (eM_Model g qm _) ⟨Nat.le_of_ble_eq_true rfl, Nat.le_of_ble_eq_true rfl⟩ ⟨Nat.le_of_ble_eq_true rfl, Nat.le_of_ble_eq_true rfl⟩ rfl rfl hl.1 (Nat.le_of_ble_eq_true rfl) dL_law_940) J (fun H locs J => ?_)
  have J := J.swap
  refine W.lcmp hx hb dL_law_943 ?_
  refine lv_if_eq (tgt := 1140) hx hb dL_law_944 (by decide) (fun _ => ?_) (fun c9 => absurd (lc_self r) c9)
  exact kk σ' τ' H locs hR' J
set_option maxRecDepth 100000 in
set_option maxHeartbeats 4000000 in
theorem lc_23 {p : Program} {l : Launch} {e : Env} {s : State} {m : MethodId} {below : List Frame} {meth : Method} {c : Code} {b L i : Nat} {xs : Nat → Int32} {g : Gh} {qc qm : Nat → Nat} {σ τ : St} {H : Heap} {locs : List Loc} {ls : Array Slot} {Q : State → Prop} (X : MX p s m #[Value.ref b] meth c cL_law 4 (some .boolean) RL) (hX : va_X b L xs s s.heap) (hbl : b < s.heap.size) (hL : L ≤ 384) (hi : i + 6 ≤ L) (J : LJ g (eC g qc) qc 23 (eM g qm) qm 22 s σ τ H locs) (hR : Rel σ τ) (hl : lv_has ls 4 [(0, .ref b), (1, .ref (qc 0)), (2, .ref (qm 0)), (3, .int (nI i))]) (kk : ∀ (σ' τ' : St) (H1 : Heap) (locs1 : List Loc), Rel σ' τ' → LJ g (eC g qc) qc 23 (eM g qm) qm 22 s σ' τ' H1 locs1 → W p l e room_1 s m #[Value.ref b] below meth c H1 locs1 100 10000 Q (F0 m 1140 ls [])) : W p l e room_1 s m #[Value.ref b] below meth c H locs 100 10000 Q (F0 m 949 ls []) := by
  have hx := X.1
  have hb := X.2.1
  have hbA : ¬ (fun a : Nat => s.heap.size ≤ a) b := Nat.not_le.mpr hbl
  obtain ⟨r, σ', τ', e1, e2, hR'⟩ := pf_copy hR (xs (nI i + 1).toNatClampNeg) (xs (nI i + 2).toNatClampNeg) (xs (nI i + 3).toNatClampNeg) (xs (nI i + 4).toNatClampNeg) (xs (nI i + 5).toNatClampNeg)
  refine lv_aload_n hx hb dL_law_949 rfl (lv_at hl 1 rfl) ?_
  refine lv_aload_n hx hb dL_law_950 rfl (lv_at hl 0 rfl) ?_
  refine lv_iload_n hx hb dL_law_951 rfl (lv_at hl 3 rfl) ?_
  refine lv_iconst (v := 1) hx hb dL_law_952 (by decide) ?_
  refine lv_iadd hx hb dL_law_953 ?_
  refine va_sld hx hb hX hbl hbA J.2.2.2.2.2.2 (vp_k (k := 1) hi (by decide) hL) dL_law_954 ?_
  refine lv_aload_n hx hb dL_law_955 rfl (lv_at hl 0 rfl) ?_
  refine lv_iload_n hx hb dL_law_956 rfl (lv_at hl 3 rfl) ?_
  refine lv_iconst (v := 2) hx hb dL_law_957 (by decide) ?_
  refine lv_iadd hx hb dL_law_958 ?_
  refine va_sld hx hb hX hbl hbA J.2.2.2.2.2.2 (vp_k (k := 2) hi (by decide) hL) dL_law_959 ?_
  refine lv_aload_n hx hb dL_law_960 rfl (lv_at hl 0 rfl) ?_
  refine lv_iload_n hx hb dL_law_961 rfl (lv_at hl 3 rfl) ?_
  refine lv_iconst (v := 3) hx hb dL_law_962 (by decide) ?_
  refine lv_iadd hx hb dL_law_963 ?_
  refine va_sld hx hb hX hbl hbA J.2.2.2.2.2.2 (vp_k (k := 3) hi (by decide) hL) dL_law_964 ?_
  refine lv_aload_n hx hb dL_law_965 rfl (lv_at hl 0 rfl) ?_
  refine lv_iload_n hx hb dL_law_966 rfl (lv_at hl 3 rfl) ?_
  refine lv_iconst (v := 4) hx hb dL_law_967 (by decide) ?_
  refine lv_iadd hx hb dL_law_968 ?_
  refine va_sld hx hb hX hbl hbA J.2.2.2.2.2.2 (vp_k (k := 4) hi (by decide) hL) dL_law_969 ?_
  refine lv_aload_n hx hb dL_law_970 rfl (lv_at hl 0 rfl) ?_
  refine lv_iload_n hx hb dL_law_971 rfl (lv_at hl 3 rfl) ?_
  refine lv_iconst (v := 5) hx hb dL_law_972 (by decide) ?_
  refine lv_iadd hx hb dL_law_973 ?_
  refine va_sld hx hb hX hbl hbA J.2.2.2.2.2.2 (vp_k (k := 5) hi (by decide) hL) dL_law_974 ?_
  refine l_calli (l_runV (cn := 0) (As := [.int (xs (nI i + 1).toNatClampNeg), .int (xs (nI i + 2).toNatClampNeg), .int (xs (nI i + 3).toNatClampNeg), .int (xs (nI i + 4).toNatClampNeg), .int (xs (nI i + 5).toNatClampNeg)]) (rest := []) X J (c_X6_copy l g qc _ _ (xs (nI i + 1).toNatClampNeg) (xs (nI i + 2).toNatClampNeg) (xs (nI i + 3).toNatClampNeg) (xs (nI i + 4).toNatClampNeg) (xs (nI i + 5).toNatClampNeg) e1) kv_X6_copy ml_L_112 rfl (by decide) (eC_YearDeck g qc _) ⟨Nat.le_of_ble_eq_true rfl, Nat.le_of_ble_eq_true rfl⟩ ⟨Nat.le_of_ble_eq_true rfl, Nat.le_of_ble_eq_true rfl⟩ rfl rfl hl.1 (Nat.le_of_ble_eq_true rfl) dL_law_975) J (fun H locs J => ?_)
  have J := J.swap
  refine lv_aload_n hx hb dL_law_978 rfl (lv_at hl 2 rfl) ?_
  refine lv_aload_n hx hb dL_law_979 rfl (lv_at hl 0 rfl) ?_
  refine lv_iload_n hx hb dL_law_980 rfl (lv_at hl 3 rfl) ?_
  refine lv_iconst (v := 1) hx hb dL_law_981 (by decide) ?_
  refine lv_iadd hx hb dL_law_982 ?_
  refine va_sld hx hb hX hbl hbA J.2.2.2.2.2.2 (vp_k (k := 1) hi (by decide) hL) dL_law_983 ?_
  refine lv_aload_n hx hb dL_law_984 rfl (lv_at hl 0 rfl) ?_
  refine lv_iload_n hx hb dL_law_985 rfl (lv_at hl 3 rfl) ?_
  refine lv_iconst (v := 2) hx hb dL_law_986 (by decide) ?_
  refine lv_iadd hx hb dL_law_987 ?_
  refine va_sld hx hb hX hbl hbA J.2.2.2.2.2.2 (vp_k (k := 2) hi (by decide) hL) dL_law_988 ?_
  refine lv_aload_n hx hb dL_law_989 rfl (lv_at hl 0 rfl) ?_
  refine lv_iload_n hx hb dL_law_990 rfl (lv_at hl 3 rfl) ?_
  refine lv_iconst (v := 3) hx hb dL_law_991 (by decide) ?_
  refine lv_iadd hx hb dL_law_992 ?_
  refine va_sld hx hb hX hbl hbA J.2.2.2.2.2.2 (vp_k (k := 3) hi (by decide) hL) dL_law_993 ?_
  refine lv_aload_n hx hb dL_law_994 rfl (lv_at hl 0 rfl) ?_
  refine lv_iload_n hx hb dL_law_995 rfl (lv_at hl 3 rfl) ?_
  refine lv_iconst (v := 4) hx hb dL_law_996 (by decide) ?_
  refine lv_iadd hx hb dL_law_997 ?_
  refine va_sld hx hb hX hbl hbA J.2.2.2.2.2.2 (vp_k (k := 4) hi (by decide) hL) dL_law_998 ?_
  refine lv_aload_n hx hb dL_law_999 rfl (lv_at hl 0 rfl) ?_
  refine lv_iload_n hx hb dL_law_1000 rfl (lv_at hl 3 rfl) ?_
  refine lv_iconst (v := 5) hx hb dL_law_1001 (by decide) ?_
  refine lv_iadd hx hb dL_law_1002 ?_
  refine va_sld hx hb hX hbl hbA J.2.2.2.2.2.2 (vp_k (k := 5) hi (by decide) hL) dL_law_1003 ?_
  refine l_calli (l_runV (cn := 0) (As := [.int (xs (nI i + 1).toNatClampNeg), .int (xs (nI i + 2).toNatClampNeg), .int (xs (nI i + 3).toNatClampNeg), .int (xs (nI i + 4).toNatClampNeg), .int (xs (nI i + 5).toNatClampNeg)]) (rest := [.int r]) X J (c_X7_copy l g qm _ _ (xs (nI i + 1).toNatClampNeg) (xs (nI i + 2).toNatClampNeg) (xs (nI i + 3).toNatClampNeg) (xs (nI i + 4).toNatClampNeg) (xs (nI i + 5).toNatClampNeg) e2) kv_X7_copy ml_L_115 rfl (by decide) (eM_Model g qm _) ⟨Nat.le_of_ble_eq_true rfl, Nat.le_of_ble_eq_true rfl⟩ ⟨Nat.le_of_ble_eq_true rfl, Nat.le_of_ble_eq_true rfl⟩ rfl rfl hl.1 (Nat.le_of_ble_eq_true rfl) dL_law_1004) J (fun H locs J => ?_)
  have J := J.swap
  refine lv_icmp_eq (tgt := 1140) hx hb dL_law_1007 (by decide) (fun _ => ?_) (fun c9 => absurd rfl c9)
  exact kk σ' τ' H locs hR' J
set_option maxRecDepth 100000 in
set_option maxHeartbeats 4000000 in
theorem lc_24 {p : Program} {l : Launch} {e : Env} {s : State} {m : MethodId} {below : List Frame} {meth : Method} {c : Code} {b L i : Nat} {xs : Nat → Int32} {g : Gh} {qc qm : Nat → Nat} {σ τ : St} {H : Heap} {locs : List Loc} {ls : Array Slot} {Q : State → Prop} (X : MX p s m #[Value.ref b] meth c cL_law 4 (some .boolean) RL) (hX : va_X b L xs s s.heap) (hbl : b < s.heap.size) (hL : L ≤ 384) (hi : i + 6 ≤ L) (J : LJ g (eC g qc) qc 23 (eM g qm) qm 22 s σ τ H locs) (hR : Rel σ τ) (hl : lv_has ls 4 [(0, .ref b), (1, .ref (qc 0)), (2, .ref (qm 0)), (3, .int (nI i))]) (kk : ∀ (σ' τ' : St) (H1 : Heap) (locs1 : List Loc), Rel σ' τ' → LJ g (eC g qc) qc 23 (eM g qm) qm 22 s σ' τ' H1 locs1 → W p l e room_1 s m #[Value.ref b] below meth c H1 locs1 100 10000 Q (F0 m 1140 ls [])) : W p l e room_1 s m #[Value.ref b] below meth c H locs 100 10000 Q (F0 m 1012 ls []) := by
  have hx := X.1
  have hb := X.2.1
  have hbA : ¬ (fun a : Nat => s.heap.size ≤ a) b := Nat.not_le.mpr hbl
  obtain ⟨r, σ', τ', e1, e2, hR'⟩ := pf_tell hR (xs (nI i + 1).toNatClampNeg)
  refine lv_aload_n hx hb dL_law_1012 rfl (lv_at hl 1 rfl) ?_
  refine lv_aload_n hx hb dL_law_1013 rfl (lv_at hl 0 rfl) ?_
  refine lv_iload_n hx hb dL_law_1014 rfl (lv_at hl 3 rfl) ?_
  refine lv_iconst (v := 1) hx hb dL_law_1015 (by decide) ?_
  refine lv_iadd hx hb dL_law_1016 ?_
  refine va_sld hx hb hX hbl hbA J.2.2.2.2.2.2 (vp_k (k := 1) hi (by decide) hL) dL_law_1017 ?_
  refine l_calli (l_runV (cn := 0) (As := [.int (xs (nI i + 1).toNatClampNeg)]) (rest := []) X J (c_X6_tell l g qc _ _ (xs (nI i + 1).toNatClampNeg) e1) kv_X6_tell ml_L_116 rfl (by decide) (eC_YearDeck g qc _) ⟨Nat.le_of_ble_eq_true rfl, Nat.le_of_ble_eq_true rfl⟩ ⟨Nat.le_of_ble_eq_true rfl, Nat.le_of_ble_eq_true rfl⟩ rfl rfl hl.1 (Nat.le_of_ble_eq_true rfl) dL_law_1018) J (fun H locs J => ?_)
  have J := J.swap
  refine lv_aload_n hx hb dL_law_1021 rfl (lv_at hl 2 rfl) ?_
  refine lv_aload_n hx hb dL_law_1022 rfl (lv_at hl 0 rfl) ?_
  refine lv_iload_n hx hb dL_law_1023 rfl (lv_at hl 3 rfl) ?_
  refine lv_iconst (v := 1) hx hb dL_law_1024 (by decide) ?_
  refine lv_iadd hx hb dL_law_1025 ?_
  refine va_sld hx hb hX hbl hbA J.2.2.2.2.2.2 (vp_k (k := 1) hi (by decide) hL) dL_law_1026 ?_
  refine l_calli (l_runV (cn := 0) (As := [.int (xs (nI i + 1).toNatClampNeg)]) (rest := [.int r]) X J (c_X7_tell l g qm _ _ (xs (nI i + 1).toNatClampNeg) e2) kv_X7_tell ml_L_119 rfl (by decide) (eM_Model g qm _) ⟨Nat.le_of_ble_eq_true rfl, Nat.le_of_ble_eq_true rfl⟩ ⟨Nat.le_of_ble_eq_true rfl, Nat.le_of_ble_eq_true rfl⟩ rfl rfl hl.1 (Nat.le_of_ble_eq_true rfl) dL_law_1027) J (fun H locs J => ?_)
  have J := J.swap
  refine lv_icmp_eq (tgt := 1140) hx hb dL_law_1030 (by decide) (fun _ => ?_) (fun c9 => absurd rfl c9)
  exact kk σ' τ' H locs hR' J
set_option maxRecDepth 100000 in
set_option maxHeartbeats 4000000 in
theorem lc_25 {p : Program} {l : Launch} {e : Env} {s : State} {m : MethodId} {below : List Frame} {meth : Method} {c : Code} {b L i : Nat} {xs : Nat → Int32} {g : Gh} {qc qm : Nat → Nat} {σ τ : St} {H : Heap} {locs : List Loc} {ls : Array Slot} {Q : State → Prop} (X : MX p s m #[Value.ref b] meth c cL_law 4 (some .boolean) RL) (hX : va_X b L xs s s.heap) (hbl : b < s.heap.size) (hL : L ≤ 384) (hi : i + 6 ≤ L) (J : LJ g (eC g qc) qc 23 (eM g qm) qm 22 s σ τ H locs) (hR : Rel σ τ) (hl : lv_has ls 4 [(0, .ref b), (1, .ref (qc 0)), (2, .ref (qm 0)), (3, .int (nI i))]) (kk : ∀ (σ' τ' : St) (H1 : Heap) (locs1 : List Loc), Rel σ' τ' → LJ g (eC g qc) qc 23 (eM g qm) qm 22 s σ' τ' H1 locs1 → W p l e room_1 s m #[Value.ref b] below meth c H1 locs1 100 10000 Q (F0 m 1140 ls [])) : W p l e room_1 s m #[Value.ref b] below meth c H locs 100 10000 Q (F0 m 1035 ls []) := by
  have hx := X.1
  have hb := X.2.1
  have hbA : ¬ (fun a : Nat => s.heap.size ≤ a) b := Nat.not_le.mpr hbl
  obtain ⟨r, σ', τ', e1, e2, hR'⟩ := pf_ring hR (xs (nI i + 1).toNatClampNeg)
  refine lv_aload_n hx hb dL_law_1035 rfl (lv_at hl 1 rfl) ?_
  refine lv_aload_n hx hb dL_law_1036 rfl (lv_at hl 0 rfl) ?_
  refine lv_iload_n hx hb dL_law_1037 rfl (lv_at hl 3 rfl) ?_
  refine lv_iconst (v := 1) hx hb dL_law_1038 (by decide) ?_
  refine lv_iadd hx hb dL_law_1039 ?_
  refine va_sld hx hb hX hbl hbA J.2.2.2.2.2.2 (vp_k (k := 1) hi (by decide) hL) dL_law_1040 ?_
  refine l_calli (l_runV (cn := 0) (As := [.int (xs (nI i + 1).toNatClampNeg)]) (rest := []) X J (c_X6_ring l g qc _ _ (xs (nI i + 1).toNatClampNeg) e1) kv_X6_ring ml_L_120 rfl (by decide) (eC_YearDeck g qc _) ⟨Nat.le_of_ble_eq_true rfl, Nat.le_of_ble_eq_true rfl⟩ ⟨Nat.le_of_ble_eq_true rfl, Nat.le_of_ble_eq_true rfl⟩ rfl rfl hl.1 (Nat.le_of_ble_eq_true rfl) dL_law_1041) J (fun H locs J => ?_)
  have J := J.swap
  refine lv_aload_n hx hb dL_law_1044 rfl (lv_at hl 2 rfl) ?_
  refine lv_aload_n hx hb dL_law_1045 rfl (lv_at hl 0 rfl) ?_
  refine lv_iload_n hx hb dL_law_1046 rfl (lv_at hl 3 rfl) ?_
  refine lv_iconst (v := 1) hx hb dL_law_1047 (by decide) ?_
  refine lv_iadd hx hb dL_law_1048 ?_
  refine va_sld hx hb hX hbl hbA J.2.2.2.2.2.2 (vp_k (k := 1) hi (by decide) hL) dL_law_1049 ?_
  refine l_calli (l_runV (cn := 0) (As := [.int (xs (nI i + 1).toNatClampNeg)]) (rest := [.int r]) X J (c_X7_ring l g qm _ _ (xs (nI i + 1).toNatClampNeg) e2) kv_X7_ring ml_L_123 rfl (by decide) (eM_Model g qm _) ⟨Nat.le_of_ble_eq_true rfl, Nat.le_of_ble_eq_true rfl⟩ ⟨Nat.le_of_ble_eq_true rfl, Nat.le_of_ble_eq_true rfl⟩ rfl rfl hl.1 (Nat.le_of_ble_eq_true rfl) dL_law_1050) J (fun H locs J => ?_)
  have J := J.swap
  refine lv_icmp_eq (tgt := 1140) hx hb dL_law_1053 (by decide) (fun _ => ?_) (fun c9 => absurd rfl c9)
  exact kk σ' τ' H locs hR' J
set_option maxRecDepth 100000 in
set_option maxHeartbeats 4000000 in
theorem lc_26 {p : Program} {l : Launch} {e : Env} {s : State} {m : MethodId} {below : List Frame} {meth : Method} {c : Code} {b L i : Nat} {xs : Nat → Int32} {g : Gh} {qc qm : Nat → Nat} {σ τ : St} {H : Heap} {locs : List Loc} {ls : Array Slot} {Q : State → Prop} (X : MX p s m #[Value.ref b] meth c cL_law 4 (some .boolean) RL) (hX : va_X b L xs s s.heap) (hbl : b < s.heap.size) (hL : L ≤ 384) (hi : i + 6 ≤ L) (J : LJ g (eC g qc) qc 23 (eM g qm) qm 22 s σ τ H locs) (hR : Rel σ τ) (hl : lv_has ls 4 [(0, .ref b), (1, .ref (qc 0)), (2, .ref (qm 0)), (3, .int (nI i))]) (kk : ∀ (σ' τ' : St) (H1 : Heap) (locs1 : List Loc), Rel σ' τ' → LJ g (eC g qc) qc 23 (eM g qm) qm 22 s σ' τ' H1 locs1 → W p l e room_1 s m #[Value.ref b] below meth c H1 locs1 100 10000 Q (F0 m 1140 ls [])) : W p l e room_1 s m #[Value.ref b] below meth c H locs 100 10000 Q (F0 m 1058 ls []) := by
  have hx := X.1
  have hb := X.2.1
  have hbA : ¬ (fun a : Nat => s.heap.size ≤ a) b := Nat.not_le.mpr hbl
  obtain ⟨r, σ', τ', e1, e2, hR'⟩ := pf_as hR (xs (nI i + 1).toNatClampNeg) (xs (nI i + 2).toNatClampNeg)
  refine lv_aload_n hx hb dL_law_1058 rfl (lv_at hl 1 rfl) ?_
  refine lv_aload_n hx hb dL_law_1059 rfl (lv_at hl 0 rfl) ?_
  refine lv_iload_n hx hb dL_law_1060 rfl (lv_at hl 3 rfl) ?_
  refine lv_iconst (v := 1) hx hb dL_law_1061 (by decide) ?_
  refine lv_iadd hx hb dL_law_1062 ?_
  refine va_sld hx hb hX hbl hbA J.2.2.2.2.2.2 (vp_k (k := 1) hi (by decide) hL) dL_law_1063 ?_
  refine lv_aload_n hx hb dL_law_1064 rfl (lv_at hl 0 rfl) ?_
  refine lv_iload_n hx hb dL_law_1065 rfl (lv_at hl 3 rfl) ?_
  refine lv_iconst (v := 2) hx hb dL_law_1066 (by decide) ?_
  refine lv_iadd hx hb dL_law_1067 ?_
  refine va_sld hx hb hX hbl hbA J.2.2.2.2.2.2 (vp_k (k := 2) hi (by decide) hL) dL_law_1068 ?_
  refine l_calli (l_runV (cn := 0) (As := [.int (xs (nI i + 1).toNatClampNeg), .int (xs (nI i + 2).toNatClampNeg)]) (rest := []) X J (c_X6_as l g qc _ _ (xs (nI i + 1).toNatClampNeg) (xs (nI i + 2).toNatClampNeg) e1) kv_X6_as ml_L_124 rfl (by decide) (eC_YearDeck g qc _) ⟨Nat.le_of_ble_eq_true rfl, Nat.le_of_ble_eq_true rfl⟩ ⟨Nat.le_of_ble_eq_true rfl, Nat.le_of_ble_eq_true rfl⟩ rfl rfl hl.1 (Nat.le_of_ble_eq_true rfl) dL_law_1069) J (fun H locs J => ?_)
  have J := J.swap
  refine lv_aload_n hx hb dL_law_1072 rfl (lv_at hl 2 rfl) ?_
  refine lv_aload_n hx hb dL_law_1073 rfl (lv_at hl 0 rfl) ?_
  refine lv_iload_n hx hb dL_law_1074 rfl (lv_at hl 3 rfl) ?_
  refine lv_iconst (v := 1) hx hb dL_law_1075 (by decide) ?_
  refine lv_iadd hx hb dL_law_1076 ?_
  refine va_sld hx hb hX hbl hbA J.2.2.2.2.2.2 (vp_k (k := 1) hi (by decide) hL) dL_law_1077 ?_
  refine lv_aload_n hx hb dL_law_1078 rfl (lv_at hl 0 rfl) ?_
  refine lv_iload_n hx hb dL_law_1079 rfl (lv_at hl 3 rfl) ?_
  refine lv_iconst (v := 2) hx hb dL_law_1080 (by decide) ?_
  refine lv_iadd hx hb dL_law_1081 ?_
  refine va_sld hx hb hX hbl hbA J.2.2.2.2.2.2 (vp_k (k := 2) hi (by decide) hL) dL_law_1082 ?_
  refine l_calli (l_runV (cn := 0) (As := [.int (xs (nI i + 1).toNatClampNeg), .int (xs (nI i + 2).toNatClampNeg)]) (rest := [.int r]) X J (c_X7_as l g qm _ _ (xs (nI i + 1).toNatClampNeg) (xs (nI i + 2).toNatClampNeg) e2) kv_X7_as ml_L_127 rfl (by decide) (eM_Model g qm _) ⟨Nat.le_of_ble_eq_true rfl, Nat.le_of_ble_eq_true rfl⟩ ⟨Nat.le_of_ble_eq_true rfl, Nat.le_of_ble_eq_true rfl⟩ rfl rfl hl.1 (Nat.le_of_ble_eq_true rfl) dL_law_1083) J (fun H locs J => ?_)
  have J := J.swap
  refine lv_icmp_eq (tgt := 1140) hx hb dL_law_1086 (by decide) (fun _ => ?_) (fun c9 => absurd rfl c9)
  exact kk σ' τ' H locs hR' J
set_option maxRecDepth 100000 in
set_option maxHeartbeats 4000000 in
theorem lc_27 {p : Program} {l : Launch} {e : Env} {s : State} {m : MethodId} {below : List Frame} {meth : Method} {c : Code} {b L i : Nat} {xs : Nat → Int32} {g : Gh} {qc qm : Nat → Nat} {σ τ : St} {H : Heap} {locs : List Loc} {ls : Array Slot} {Q : State → Prop} (X : MX p s m #[Value.ref b] meth c cL_law 4 (some .boolean) RL) (hX : va_X b L xs s s.heap) (hbl : b < s.heap.size) (hL : L ≤ 384) (hi : i + 6 ≤ L) (J : LJ g (eC g qc) qc 23 (eM g qm) qm 22 s σ τ H locs) (hR : Rel σ τ) (hl : lv_has ls 4 [(0, .ref b), (1, .ref (qc 0)), (2, .ref (qm 0)), (3, .int (nI i))]) (kk : ∀ (σ' τ' : St) (H1 : Heap) (locs1 : List Loc), Rel σ' τ' → LJ g (eC g qc) qc 23 (eM g qm) qm 22 s σ' τ' H1 locs1 → W p l e room_1 s m #[Value.ref b] below meth c H1 locs1 100 10000 Q (F0 m 1140 ls [])) : W p l e room_1 s m #[Value.ref b] below meth c H locs 100 10000 Q (F0 m 1091 ls []) := by
  have hx := X.1
  have hb := X.2.1
  have hbA : ¬ (fun a : Nat => s.heap.size ≤ a) b := Nat.not_le.mpr hbl
  obtain ⟨r, e1, e2⟩ := pf_trace hR 
  refine lv_aload_n hx hb dL_law_1091 rfl (lv_at hl 1 rfl) ?_
  refine l_calli (l_runV (cn := 0) (As := []) (rest := []) X J (c_X6_trace l g qc _ _  e1) kv_X6_trace ml_L_128 rfl (by decide) (eC_YearDeck g qc _) ⟨Nat.le_of_ble_eq_true rfl, Nat.le_of_ble_eq_true rfl⟩ ⟨Nat.le_of_ble_eq_true rfl, Nat.le_of_ble_eq_true rfl⟩ rfl rfl hl.1 (Nat.le_of_ble_eq_true rfl) dL_law_1092) J (fun H locs J => ?_)
  have J := J.swap
  refine lv_aload_n hx hb dL_law_1095 rfl (lv_at hl 2 rfl) ?_
  refine l_calli (l_runV (cn := 0) (As := []) (rest := [.int r]) X J (c_X7_trace l g qm _ _  e2) kv_X7_trace ml_L_131 rfl (by decide) (eM_Model g qm _) ⟨Nat.le_of_ble_eq_true rfl, Nat.le_of_ble_eq_true rfl⟩ ⟨Nat.le_of_ble_eq_true rfl, Nat.le_of_ble_eq_true rfl⟩ rfl rfl hl.1 (Nat.le_of_ble_eq_true rfl) dL_law_1096) J (fun H locs J => ?_)
  have J := J.swap
  refine lv_icmp_eq (tgt := 1140) hx hb dL_law_1099 (by decide) (fun _ => ?_) (fun c9 => absurd rfl c9)
  exact kk σ τ H locs hR J
set_option maxRecDepth 100000 in
set_option maxHeartbeats 4000000 in
theorem lc_28 {p : Program} {l : Launch} {e : Env} {s : State} {m : MethodId} {below : List Frame} {meth : Method} {c : Code} {b L i : Nat} {xs : Nat → Int32} {g : Gh} {qc qm : Nat → Nat} {σ τ : St} {H : Heap} {locs : List Loc} {ls : Array Slot} {Q : State → Prop} (X : MX p s m #[Value.ref b] meth c cL_law 4 (some .boolean) RL) (hX : va_X b L xs s s.heap) (hbl : b < s.heap.size) (hL : L ≤ 384) (hi : i + 6 ≤ L) (J : LJ g (eC g qc) qc 23 (eM g qm) qm 22 s σ τ H locs) (hR : Rel σ τ) (hl : lv_has ls 4 [(0, .ref b), (1, .ref (qc 0)), (2, .ref (qm 0)), (3, .int (nI i))]) (kk : ∀ (σ' τ' : St) (H1 : Heap) (locs1 : List Loc), Rel σ' τ' → LJ g (eC g qc) qc 23 (eM g qm) qm 22 s σ' τ' H1 locs1 → W p l e room_1 s m #[Value.ref b] below meth c H1 locs1 100 10000 Q (F0 m 1140 ls [])) : W p l e room_1 s m #[Value.ref b] below meth c H locs 100 10000 Q (F0 m 1104 ls []) := by
  have hx := X.1
  have hb := X.2.1
  have hbA : ¬ (fun a : Nat => s.heap.size ≤ a) b := Nat.not_le.mpr hbl
  obtain ⟨r, e1, e2⟩ := pf_fault hR 
  refine lv_aload_n hx hb dL_law_1104 rfl (lv_at hl 1 rfl) ?_
  refine l_calli (l_runV (cn := 0) (As := []) (rest := []) X J (c_X6_fault l g qc _ _  e1) kv_X6_fault ml_L_132 rfl (by decide) (eC_YearDeck g qc _) ⟨Nat.le_of_ble_eq_true rfl, Nat.le_of_ble_eq_true rfl⟩ ⟨Nat.le_of_ble_eq_true rfl, Nat.le_of_ble_eq_true rfl⟩ rfl rfl hl.1 (Nat.le_of_ble_eq_true rfl) dL_law_1105) J (fun H locs J => ?_)
  have J := J.swap
  refine lv_aload_n hx hb dL_law_1108 rfl (lv_at hl 2 rfl) ?_
  refine l_calli (l_runV (cn := 0) (As := []) (rest := [.int r]) X J (c_X7_fault l g qm _ _  e2) kv_X7_fault ml_L_135 rfl (by decide) (eM_Model g qm _) ⟨Nat.le_of_ble_eq_true rfl, Nat.le_of_ble_eq_true rfl⟩ ⟨Nat.le_of_ble_eq_true rfl, Nat.le_of_ble_eq_true rfl⟩ rfl rfl hl.1 (Nat.le_of_ble_eq_true rfl) dL_law_1109) J (fun H locs J => ?_)
  have J := J.swap
  refine lv_icmp_eq (tgt := 1140) hx hb dL_law_1112 (by decide) (fun _ => ?_) (fun c9 => absurd rfl c9)
  exact kk σ τ H locs hR J
set_option maxRecDepth 100000 in
set_option maxHeartbeats 4000000 in
theorem lc_29 {p : Program} {l : Launch} {e : Env} {s : State} {m : MethodId} {below : List Frame} {meth : Method} {c : Code} {b L i : Nat} {xs : Nat → Int32} {g : Gh} {qc qm : Nat → Nat} {σ τ : St} {H : Heap} {locs : List Loc} {ls : Array Slot} {Q : State → Prop} (X : MX p s m #[Value.ref b] meth c cL_law 4 (some .boolean) RL) (hX : va_X b L xs s s.heap) (hbl : b < s.heap.size) (hL : L ≤ 384) (hi : i + 6 ≤ L) (J : LJ g (eC g qc) qc 23 (eM g qm) qm 22 s σ τ H locs) (hR : Rel σ τ) (hl : lv_has ls 4 [(0, .ref b), (1, .ref (qc 0)), (2, .ref (qm 0)), (3, .int (nI i))]) (kk : ∀ (σ' τ' : St) (H1 : Heap) (locs1 : List Loc), Rel σ' τ' → LJ g (eC g qc) qc 23 (eM g qm) qm 22 s σ' τ' H1 locs1 → W p l e room_1 s m #[Value.ref b] below meth c H1 locs1 100 10000 Q (F0 m 1140 ls [])) : W p l e room_1 s m #[Value.ref b] below meth c H locs 100 10000 Q (F0 m 1117 ls []) := by
  have hx := X.1
  have hb := X.2.1
  have hbA : ¬ (fun a : Nat => s.heap.size ≤ a) b := Nat.not_le.mpr hbl
  obtain ⟨r, e1, e2⟩ := pf_many hR (xs (nI i + 1).toNatClampNeg)
  refine lv_aload_n hx hb dL_law_1117 rfl (lv_at hl 1 rfl) ?_
  refine lv_aload_n hx hb dL_law_1118 rfl (lv_at hl 0 rfl) ?_
  refine lv_iload_n hx hb dL_law_1119 rfl (lv_at hl 3 rfl) ?_
  refine lv_iconst (v := 1) hx hb dL_law_1120 (by decide) ?_
  refine lv_iadd hx hb dL_law_1121 ?_
  refine va_sld hx hb hX hbl hbA J.2.2.2.2.2.2 (vp_k (k := 1) hi (by decide) hL) dL_law_1122 ?_
  refine l_calli (l_runV (cn := 0) (As := [.int (xs (nI i + 1).toNatClampNeg)]) (rest := []) X J (c_X6_many l g qc _ _ (xs (nI i + 1).toNatClampNeg) e1) kv_X6_many ml_L_136 rfl (by decide) (eC_YearDeck g qc _) ⟨Nat.le_of_ble_eq_true rfl, Nat.le_of_ble_eq_true rfl⟩ ⟨Nat.le_of_ble_eq_true rfl, Nat.le_of_ble_eq_true rfl⟩ rfl rfl hl.1 (Nat.le_of_ble_eq_true rfl) dL_law_1123) J (fun H locs J => ?_)
  have J := J.swap
  refine lv_aload_n hx hb dL_law_1126 rfl (lv_at hl 2 rfl) ?_
  refine lv_aload_n hx hb dL_law_1127 rfl (lv_at hl 0 rfl) ?_
  refine lv_iload_n hx hb dL_law_1128 rfl (lv_at hl 3 rfl) ?_
  refine lv_iconst (v := 1) hx hb dL_law_1129 (by decide) ?_
  refine lv_iadd hx hb dL_law_1130 ?_
  refine va_sld hx hb hX hbl hbA J.2.2.2.2.2.2 (vp_k (k := 1) hi (by decide) hL) dL_law_1131 ?_
  refine l_calli (l_runV (cn := 0) (As := [.int (xs (nI i + 1).toNatClampNeg)]) (rest := [.int r]) X J (c_X7_many l g qm _ _ (xs (nI i + 1).toNatClampNeg) e2) kv_X7_many ml_L_139 rfl (by decide) (eM_Model g qm _) ⟨Nat.le_of_ble_eq_true rfl, Nat.le_of_ble_eq_true rfl⟩ ⟨Nat.le_of_ble_eq_true rfl, Nat.le_of_ble_eq_true rfl⟩ rfl rfl hl.1 (Nat.le_of_ble_eq_true rfl) dL_law_1132) J (fun H locs J => ?_)
  have J := J.swap
  refine lv_icmp_eq (tgt := 1140) hx hb dL_law_1135 (by decide) (fun _ => ?_) (fun c9 => absurd rfl c9)
  exact kk σ τ H locs hR J
