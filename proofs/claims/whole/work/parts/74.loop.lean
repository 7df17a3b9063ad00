theorem l6_fin : ∀ L : Fin 385, (Int32.ofNat L.val - 6).toInt = (L.val : Int) - 6 := by decide +kernel
set_option maxRecDepth 100000 in
set_option maxHeartbeats 4000000 in
theorem law_loop {p : Program} {l : Launch} {e : Env} {s : State} {m : MethodId} {below : List Frame} {meth : Method} {c : Code} {b L : Nat} {xs : Nat → Int32} {g : Gh} {qc qm : Nat → Nat} (hL : L ≤ 384) (X : MX p s m #[Value.ref b] meth c cL_law 4 (some .boolean) RL) (hX : va_X b L xs s s.heap) (hbl : b < s.heap.size) (hr : meth.sig.returnType = ret) (hlocks : meth.locks = false) : ∀ (n i : Nat) (σ τ : St) (H : Heap) (locs : List Loc) (ls : Array Slot), L + 1 ≤ i + n → i ≤ 400 → Rel σ τ → LJ g (eC g qc) qc 23 (eM g qm) qm 22 s σ τ H locs → lv_has ls 4 [(0, .ref b), (1, .ref (qc 0)), (2, .ref (qm 0)), (3, .int (nI i))] → W p l e room_1 s m #[Value.ref b] below meth c H locs 100 10000 (lw_Z below #[Value.ref b] s) (F0 m 18 ls []) := by
  have hx := X.1
  have hb := X.2.1
  have hbA : ¬ (fun a : Nat => s.heap.size ≤ a) b := Nat.not_le.mpr hbl
  have l6 := l6_fin ⟨L, by omega⟩
  simp only at l6
  intro n
  induction n with
  | zero =>
    intro i σ τ H locs ls hn hi hR J hl
    refine lv_iload_n hx hb dL_law_18 rfl (lv_at hl 3 rfl) ?_
    refine lv_aload_n hx hb dL_law_19 rfl (lv_at hl 0 rfl) ?_
    refine va_slen hx hb hX hbl hbA J.2.2.2.2.2.2 dL_law_20 ?_
    refine lv_bipush (v := 6) hx hb dL_law_21 (by decide) ?_
    refine lv_isub hx hb dL_law_23 ?_
    refine lv_icmp_gt (tgt := 1146) hx hb dL_law_24 (by decide) (fun hc => ?_) (fun hc => absurd (show Int32.ofNat L - 6 < nI i by rw [lt_i, l6, nI_toInt (by omega)]; omega) hc)
    refine lv_iconst (v := 1) hx hb dL_law_1146 (by decide) ?_
    refine va_forget (fun q hq => J.2.2.2.2.2.2.2.2 q hq) ?_
    refine W.widen (k := 600000) (n := 7302250) (Nat.le_of_ble_eq_true rfl) (Nat.le_of_ble_eq_true rfl) ?_
    exact lw_ret hx hb hr hlocks dL_law_1147
  | succ n ih =>
    intro i σ τ H locs ls hn hi hR J hl
    refine lv_iload_n hx hb dL_law_18 rfl (lv_at hl 3 rfl) ?_
    refine lv_aload_n hx hb dL_law_19 rfl (lv_at hl 0 rfl) ?_
    refine va_slen hx hb hX hbl hbA J.2.2.2.2.2.2 dL_law_20 ?_
    refine lv_bipush (v := 6) hx hb dL_law_21 (by decide) ?_
    refine lv_isub hx hb dL_law_23 ?_
    refine lv_icmp_gt (tgt := 1146) hx hb dL_law_24 (by decide) (fun hc => ?_) (fun hc => ?_)
    · refine lv_iconst (v := 1) hx hb dL_law_1146 (by decide) ?_
      refine va_forget (fun q hq => J.2.2.2.2.2.2.2.2 q hq) ?_
      refine W.widen (k := 600000) (n := 7302250) (Nat.le_of_ble_eq_true rfl) (Nat.le_of_ble_eq_true rfl) ?_
      exact lw_ret hx hb hr hlocks dL_law_1147
    have h6 : i + 6 ≤ L := by
      rw [lt_i, l6, nI_toInt (by omega)] at hc
      omega
    have kk : ∀ (σ' τ' : St) (H1 : Heap) (locs1 : List Loc), Rel σ' τ' → LJ g (eC g qc) qc 23 (eM g qm) qm 22 s σ' τ' H1 locs1 → W p l e room_1 s m #[Value.ref b] below meth c H1 locs1 100 10000 (lw_Z below #[Value.ref b] s) (F0 m 1140 ls []) := by
      intro σ' τ' H1 locs1 hR' J'
      refine lv_iinc (v := nI (i + 6)) (lv' := [(3, .int (nI (i + 6))), (0, .ref b), (1, .ref (qc 0)), (2, .ref (qm 0))]) hx hb dL_law_1140 hl (k := 3) rfl (nI_add i 6) (by decide) rfl (fun ls hl => ?_)
      refine lv_goto (tgt := 18) hx hb dL_law_1143 (by decide) ?_
      exact ih (i + 6) σ' τ' H1 locs1 ls (by omega) (by omega) hR' J' (lv_sub hl [1, 2, 3, 0] rfl)
    refine lv_aload_n hx hb dL_law_27 rfl (lv_at hl 0 rfl) ?_
    refine lv_iload_n hx hb dL_law_28 rfl (lv_at hl 3 rfl) ?_
    refine va_sld hx hb hX hbl hbA J.2.2.2.2.2.2 (vp_in_nI (by omega) (by omega)) dL_law_29 ?_
    refine lv_bipush (v := 31) hx hb dL_law_30 (by decide) ?_
    refine lv_iand hx hb dL_law_32 ?_
    generalize xs (nI i).toNatClampNeg &&& 31 = v
    by_cases hc0 : v = 0
    · refine lv_tableIn (off := 135) (tgt := 168) hx hb dL_law_33 (by rw [hc0]; decide) (by rw [hc0]; decide) (by rw [hc0]; rfl) (by decide) ?_
      exact lc_0 X hX hbl hL h6 J hR hl kk
    by_cases hc1 : v = 1
    · refine lv_tableIn (off := 188) (tgt := 221) hx hb dL_law_33 (by rw [hc1]; decide) (by rw [hc1]; decide) (by rw [hc1]; rfl) (by decide) ?_
      exact lc_1 X hX hbl hL h6 J hR hl kk
    by_cases hc2 : v = 2
    · refine lv_tableIn (off := 221) (tgt := 254) hx hb dL_law_33 (by rw [hc2]; decide) (by rw [hc2]; decide) (by rw [hc2]; rfl) (by decide) ?_
      exact lc_2 X hX hbl hL h6 J hR hl kk
    by_cases hc3 : v = 3
    · refine lv_tableIn (off := 244) (tgt := 277) hx hb dL_law_33 (by rw [hc3]; decide) (by rw [hc3]; decide) (by rw [hc3]; rfl) (by decide) ?_
      exact lc_3 X hX hbl hL h6 J hR hl kk
    by_cases hc4 : v = 4
    · refine lv_tableIn (off := 277) (tgt := 310) hx hb dL_law_33 (by rw [hc4]; decide) (by rw [hc4]; decide) (by rw [hc4]; rfl) (by decide) ?_
      exact lc_4 X hX hbl hL h6 J hR hl kk
    by_cases hc5 : v = 5
    · refine lv_tableIn (off := 300) (tgt := 333) hx hb dL_law_33 (by rw [hc5]; decide) (by rw [hc5]; decide) (by rw [hc5]; rfl) (by decide) ?_
      exact lc_5 X hX hbl hL h6 J hR hl kk
    by_cases hc6 : v = 6
    · refine lv_tableIn (off := 333) (tgt := 366) hx hb dL_law_33 (by rw [hc6]; decide) (by rw [hc6]; decide) (by rw [hc6]; rfl) (by decide) ?_
      exact lc_6 X hX hbl hL h6 J hR hl kk
    by_cases hc7 : v = 7
    · refine lv_tableIn (off := 366) (tgt := 399) hx hb dL_law_33 (by rw [hc7]; decide) (by rw [hc7]; decide) (by rw [hc7]; rfl) (by decide) ?_
      exact lc_7 X hX hbl hL h6 J hR hl kk
    by_cases hc8 : v = 8
    · refine lv_tableIn (off := 399) (tgt := 432) hx hb dL_law_33 (by rw [hc8]; decide) (by rw [hc8]; decide) (by rw [hc8]; rfl) (by decide) ?_
      exact lc_8 X hX hbl hL h6 J hR hl kk
    by_cases hc9 : v = 9
    · refine lv_tableIn (off := 462) (tgt := 495) hx hb dL_law_33 (by rw [hc9]; decide) (by rw [hc9]; decide) (by rw [hc9]; rfl) (by decide) ?_
      exact lc_9 X hX hbl hL h6 J hR hl kk
    by_cases hc10 : v = 10
    · refine lv_tableIn (off := 495) (tgt := 528) hx hb dL_law_33 (by rw [hc10]; decide) (by rw [hc10]; decide) (by rw [hc10]; rfl) (by decide) ?_
      exact lc_10 X hX hbl hL h6 J hR hl kk
    by_cases hc11 : v = 11
    · refine lv_tableIn (off := 518) (tgt := 551) hx hb dL_law_33 (by rw [hc11]; decide) (by rw [hc11]; decide) (by rw [hc11]; rfl) (by decide) ?_
      exact lc_11 X hX hbl hL h6 J hR hl kk
    by_cases hc12 : v = 12
    · refine lv_tableIn (off := 561) (tgt := 594) hx hb dL_law_33 (by rw [hc12]; decide) (by rw [hc12]; decide) (by rw [hc12]; rfl) (by decide) ?_
      exact lc_12 X hX hbl hL h6 J hR hl kk
    by_cases hc13 : v = 13
    · refine lv_tableIn (off := 574) (tgt := 607) hx hb dL_law_33 (by rw [hc13]; decide) (by rw [hc13]; decide) (by rw [hc13]; rfl) (by decide) ?_
      exact lc_13 X hX hbl hL h6 J hR hl kk
    by_cases hc14 : v = 14
    · refine lv_tableIn (off := 617) (tgt := 650) hx hb dL_law_33 (by rw [hc14]; decide) (by rw [hc14]; decide) (by rw [hc14]; rfl) (by decide) ?_
      exact lc_14 X hX hbl hL h6 J hR hl kk
    by_cases hc15 : v = 15
    · refine lv_tableIn (off := 640) (tgt := 673) hx hb dL_law_33 (by rw [hc15]; decide) (by rw [hc15]; decide) (by rw [hc15]; rfl) (by decide) ?_
      exact lc_15 X hX hbl hL h6 J hR hl kk
    by_cases hc16 : v = 16
    · refine lv_tableIn (off := 663) (tgt := 696) hx hb dL_law_33 (by rw [hc16]; decide) (by rw [hc16]; decide) (by rw [hc16]; rfl) (by decide) ?_
      exact lc_16 X hX hbl hL h6 J hR hl kk
    by_cases hc17 : v = 17
    · refine lv_tableIn (off := 686) (tgt := 719) hx hb dL_law_33 (by rw [hc17]; decide) (by rw [hc17]; decide) (by rw [hc17]; rfl) (by decide) ?_
      exact lc_17 X hX hbl hL h6 J hR hl kk
    by_cases hc18 : v = 18
    · refine lv_tableIn (off := 719) (tgt := 752) hx hb dL_law_33 (by rw [hc18]; decide) (by rw [hc18]; decide) (by rw [hc18]; rfl) (by decide) ?_
      exact lc_18 X hX hbl hL h6 J hR hl kk
    by_cases hc19 : v = 19
    · refine lv_tableIn (off := 763) (tgt := 796) hx hb dL_law_33 (by rw [hc19]; decide) (by rw [hc19]; decide) (by rw [hc19]; rfl) (by decide) ?_
      exact lc_19 X hX hbl hL h6 J hR hl kk
    by_cases hc20 : v = 20
    · refine lv_tableIn (off := 806) (tgt := 839) hx hb dL_law_33 (by rw [hc20]; decide) (by rw [hc20]; decide) (by rw [hc20]; rfl) (by decide) ?_
      exact lc_20 X hX hbl hL h6 J hR hl kk
    by_cases hc21 : v = 21
    · refine lv_tableIn (off := 829) (tgt := 862) hx hb dL_law_33 (by rw [hc21]; decide) (by rw [hc21]; decide) (by rw [hc21]; rfl) (by decide) ?_
      exact lc_21 X hX hbl hL h6 J hR hl kk
    by_cases hc22 : v = 22
    · refine lv_tableIn (off := 872) (tgt := 905) hx hb dL_law_33 (by rw [hc22]; decide) (by rw [hc22]; decide) (by rw [hc22]; rfl) (by decide) ?_
      exact lc_22 X hX hbl hL h6 J hR hl kk
    by_cases hc23 : v = 23
    · refine lv_tableIn (off := 916) (tgt := 949) hx hb dL_law_33 (by rw [hc23]; decide) (by rw [hc23]; decide) (by rw [hc23]; rfl) (by decide) ?_
      exact lc_23 X hX hbl hL h6 J hR hl kk
    by_cases hc24 : v = 24
    · refine lv_tableIn (off := 979) (tgt := 1012) hx hb dL_law_33 (by rw [hc24]; decide) (by rw [hc24]; decide) (by rw [hc24]; rfl) (by decide) ?_
      exact lc_24 X hX hbl hL h6 J hR hl kk
    by_cases hc25 : v = 25
    · refine lv_tableIn (off := 1002) (tgt := 1035) hx hb dL_law_33 (by rw [hc25]; decide) (by rw [hc25]; decide) (by rw [hc25]; rfl) (by decide) ?_
      exact lc_25 X hX hbl hL h6 J hR hl kk
    by_cases hc26 : v = 26
    · refine lv_tableIn (off := 1025) (tgt := 1058) hx hb dL_law_33 (by rw [hc26]; decide) (by rw [hc26]; decide) (by rw [hc26]; rfl) (by decide) ?_
      exact lc_26 X hX hbl hL h6 J hR hl kk
    by_cases hc27 : v = 27
    · refine lv_tableIn (off := 1058) (tgt := 1091) hx hb dL_law_33 (by rw [hc27]; decide) (by rw [hc27]; decide) (by rw [hc27]; rfl) (by decide) ?_
      exact lc_27 X hX hbl hL h6 J hR hl kk
    by_cases hc28 : v = 28
    · refine lv_tableIn (off := 1071) (tgt := 1104) hx hb dL_law_33 (by rw [hc28]; decide) (by rw [hc28]; decide) (by rw [hc28]; rfl) (by decide) ?_
      exact lc_28 X hX hbl hL h6 J hR hl kk
    by_cases hc29 : v = 29
    · refine lv_tableIn (off := 1084) (tgt := 1117) hx hb dL_law_33 (by rw [hc29]; decide) (by rw [hc29]; decide) (by rw [hc29]; rfl) (by decide) ?_
      exact lc_29 X hX hbl hL h6 J hR hl kk
    have ho0 := ne_toInt hc0 (a := 0) (by decide)
    have ho1 := ne_toInt hc1 (a := 1) (by decide)
    have ho2 := ne_toInt hc2 (a := 2) (by decide)
    have ho3 := ne_toInt hc3 (a := 3) (by decide)
    have ho4 := ne_toInt hc4 (a := 4) (by decide)
    have ho5 := ne_toInt hc5 (a := 5) (by decide)
    have ho6 := ne_toInt hc6 (a := 6) (by decide)
    have ho7 := ne_toInt hc7 (a := 7) (by decide)
    have ho8 := ne_toInt hc8 (a := 8) (by decide)
    have ho9 := ne_toInt hc9 (a := 9) (by decide)
    have ho10 := ne_toInt hc10 (a := 10) (by decide)
    have ho11 := ne_toInt hc11 (a := 11) (by decide)
    have ho12 := ne_toInt hc12 (a := 12) (by decide)
    have ho13 := ne_toInt hc13 (a := 13) (by decide)
    have ho14 := ne_toInt hc14 (a := 14) (by decide)
    have ho15 := ne_toInt hc15 (a := 15) (by decide)
    have ho16 := ne_toInt hc16 (a := 16) (by decide)
    have ho17 := ne_toInt hc17 (a := 17) (by decide)
    have ho18 := ne_toInt hc18 (a := 18) (by decide)
    have ho19 := ne_toInt hc19 (a := 19) (by decide)
    have ho20 := ne_toInt hc20 (a := 20) (by decide)
    have ho21 := ne_toInt hc21 (a := 21) (by decide)
    have ho22 := ne_toInt hc22 (a := 22) (by decide)
    have ho23 := ne_toInt hc23 (a := 23) (by decide)
    have ho24 := ne_toInt hc24 (a := 24) (by decide)
    have ho25 := ne_toInt hc25 (a := 25) (by decide)
    have ho26 := ne_toInt hc26 (a := 26) (by decide)
    have ho27 := ne_toInt hc27 (a := 27) (by decide)
    have ho28 := ne_toInt hc28 (a := 28) (by decide)
    have ho29 := ne_toInt hc29 (a := 29) (by decide)
    refine lv_tableOut (tgt := 1140) hx hb dL_law_33 (by omega) (by decide) ?_
    exact kk σ τ H locs hR J
