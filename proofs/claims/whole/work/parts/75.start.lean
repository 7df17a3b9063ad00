theorem P_l {D : va_G} {cl : List vw_C} {A B : va_W} {H : Heap} (h : va_P D cl (A ++ B) H) : va_P D cl A H := fun k x hx => h k x (by rw [List.getElem?_append_left (List.getElem?_eq_some_iff.mp hx).1]; exact hx)
theorem P_r {D : va_G} {cl : List vw_C} {A B : va_W} {H : Heap} (h : va_P D cl (A ++ B) H) : va_P D cl B H := fun k x hx => h (A.length + k) x (by rw [List.getElem?_append_right (by omega), Nat.add_sub_cancel_left]; exact hx)
theorem D_l {A0 : Nat → Prop} {A B : va_W} (h : va_D A0 (A ++ B)) : va_D A0 A :=
  have f : ∀ {k : Nat} {x : Nat × va_E}, A[k]? = some x → (A ++ B)[k]? = some x := fun hx => by rw [List.getElem?_append_left (List.getElem?_eq_some_iff.mp hx).1]; exact hx
  ⟨fun i j x y hx hy e => h.1 i j x y (f hx) (f hy) e, fun k x hx => h.2 k x (f hx)⟩
theorem D_rf {A B : va_W} {k : Nat} {x : Nat × va_E} (hx : B[k]? = some x) : (A ++ B)[A.length + k]? = some x := by rw [List.getElem?_append_right (by omega), Nat.add_sub_cancel_left]; exact hx
theorem D_r {A0 : Nat → Prop} {A B : va_W} (h : va_D A0 (A ++ B)) : va_D A0 B :=
  ⟨fun i j x y hx hy e => by have := h.1 (A.length + i) (A.length + j) x y (D_rf hx) (D_rf hy) e; omega, fun k x hx => h.2 _ x (D_rf hx)⟩
theorem D_ne {A0 : Nat → Prop} {A B : va_W} (h : va_D A0 (A ++ B)) {i j : Nat} {x y : Nat × va_E} (hx : A[i]? = some x) (hy : B[j]? = some y) : x.1 ≠ y.1 := fun e => by
  have hl := (List.getElem?_eq_some_iff.mp hx).1
  have := h.1 i (A.length + j) x y (by rw [List.getElem?_append_left hl]; exact hx) (D_rf hy) e
  omega
theorem ib_X6 : Cond.instantiable RX6 6 ∈ lw_g := lw_mem 54 (by decide +kernel) rfl
theorem ib_X7 : Cond.instantiable RX7 31 ∈ lw_g := lw_mem 537 (by decide +kernel) rfl
theorem in9_X6 : Cond.initialized RX6 ∈ lw_g := lw_mem 42 (by decide +kernel) rfl
theorem in9_X7 : Cond.initialized RX7 ∈ lw_g := lw_mem 47 (by decide +kernel) rfl
theorem im9_X6 : Cond.instanceMethod yX6_init ∈ lw_g := lw_mem 56 (by decide +kernel) rfl
theorem im9_X7 : Cond.instanceMethod yX7_init ∈ lw_g := lw_mem 539 (by decide +kernel) rfl
theorem kl_L_7 : Cond.classLink RL 7 RX6 ∈ lw_g := lw_mem 53 (by decide +kernel) rfl
theorem kl_L_10 : Cond.classLink RL 10 RX7 ∈ lw_g := lw_mem 536 (by decide +kernel) rfl
theorem gi_X6 : GoodIn lw_g (wU yX6_init cX6_init 2 none) := wU_good (lw_mem 57 (by decide +kernel) rfl)
theorem gi_X7 : GoodIn lw_g (wU yX7_init cX7_init 2 none) := wU_good (lw_mem 540 (by decide +kernel) rfl)
theorem NX6_call {U : State} {gg : JFrame} {mk : MethodId} {a : Array Value} (n : NX6 U) : NX6 (U.calling gg mk a) := ⟨va_Nw.same rfl rfl n.1, va_Nw.same rfl rfl n.2.1, va_AO.moved (Vm.Alike.refl U.vm) n.2.2.1, NX2_call n.2.2.2⟩
theorem NX6_warm {s U : State} (hW : s.WarmedH U.vm) (n : NX6 s) : NX6 U := ⟨va_Nw.warmM hW n.1, va_Nw.warmM hW n.2.1, va_AO.moved hW.alike n.2.2.1, NX2_warm hW n.2.2.2⟩
theorem ar_prim {s : State} {args : Array Value} {ty : FieldType} (h : (Cond.arrayClass ty).before args s = true) : ∃ cA, ArrOfT s cA ty ∧ s.vm.findClass ("[" ++ ty.toString) = some cA := by
  obtain ⟨cA, kA, comp, f1, f2, f3⟩ := Cond.arrayClass_spec h
  exact ⟨cA, fun n z => ⟨(fun k h => by cases h), kA, f2, comp, f3⟩, f1⟩
theorem ar_obj {s : State} {args : Array Value} {C : String} (h : (Cond.arrayOver (.object C)).before args s = true) : ∃ cA, ArrOfT s cA (.object C) ∧ va_RA s cA (.object C) := by
  obtain ⟨comp, cA, kA, f4, -, f2, f3, f1⟩ := Cond.arrayOver_spec h
  exact ⟨cA, fun n z => ⟨(fun k h => by cases h), kA, f2, comp, f3⟩, kA, comp, f2, f3, f4, f1⟩
set_option maxRecDepth 100000 in
set_option maxHeartbeats 4000000 in
theorem whole_start {p : Program} {e : Env} {s : State} {m : MethodId} {below : List Frame} {meth : Method} {c : Code} (l : Launch) {b L : Nat} {xs : Nat → Int32} (hL : L ≤ 384) (C0 : lw_At p s m meth c b L xs) : W p l e room_1 s m #[Value.ref b] below meth c s.heap [] 0 0 (lw_Z below #[Value.ref b] s) (entryFrame m ([Value.ref b] : List Value).toArray 4) := by
  obtain ⟨hx, hb, hr, hml, hown, hts0, hX, hbl, hlocks, hgv⟩ := id C0
  have hts : ∀ w ∈ lw_g, w.before #[Value.ref b] s = true := fun w h => hts0 w (List.mem_filter.mp h).1
  have hg := hts
  have hA : ∀ q : Nat, s.heap.size ≤ q → (fun q : Nat => s.heap.size ≤ q) q := fun _ h => h
  obtain ⟨c0, iS0, hKn0⟩ := u_known (C := RX1) (T := TX1) (N := 4) (n := 4) hg in_X1 (hg _ ib_X1)
  obtain ⟨c1, iS1, hKn1⟩ := u_known (C := RX2) (T := TX2) (N := 6) (n := 6) hg in_X2 (hg _ ib_X2)
  obtain ⟨c2, iS2, hKn2⟩ := u_known (C := RX4) (T := TX4) (N := 5) (n := 5) hg in_X4 (hg _ ib_X4)
  obtain ⟨c3, iS3, hKn3⟩ := u_known (C := RX5) (T := TX5) (N := 3) (n := 3) hg in_X5 (hg _ ib_X5)
  obtain ⟨c4, iS4, hKn4⟩ := u_known (C := RX6) (T := TX6) (N := 6) (n := 6) hg in_X6 (hg _ ib_X6)
  obtain ⟨c5, iS5, hKn5⟩ := u_known (C := RX7) (T := TX7) (N := 31) (n := 31) hg in_X7 (hg _ ib_X7)
  obtain ⟨dC, dI, hKc⟩ : ∃ (dC : Nat → ClassId) (dI : Nat → Nat → Nat), ∀ (k : Nat) (q : vw_C), vwCl[k]? = some q → u_Kn s q.1 q.2.1 q.2.2 (dC k) (dI k) := by
    refine ⟨fun k => ([c0, c1, c2, c3, c4, c5] : List ClassId).getD k c0, fun k => ([iS0, iS1, iS2, iS3, iS4, iS5] : List (Nat → Nat)).getD k iS0, ?_⟩
    intro k q hq
    match k, hq with
    | 0, hq => cases hq; exact hKn0
    | 1, hq => cases hq; exact hKn1
    | 2, hq => cases hq; exact hKn2
    | 3, hq => cases hq; exact hKn3
    | 4, hq => cases hq; exact hKn4
    | 5, hq => cases hq; exact hKn5
    | k + 6, hq => simp [vwCl] at hq
  have wX4 : (Cond.arrayOver (.object RX4)).before #[Value.ref b] s = true := hts0 _ (List.mem_of_getElem? (i := 68) (by decide +kernel))
  have wX5 : (Cond.arrayOver (.object RX5)).before #[Value.ref b] s = true := hts0 _ (List.mem_of_getElem? (i := 144) (by decide +kernel))
  have n34 : (Cond.methodLinkNest RX2 34 yX4_init RX6).before #[Value.ref b] s = true := hts0 _ (List.mem_of_getElem? (i := 70) (by decide +kernel))
  have n20 : (Cond.methodLinkNest RX6 20 yX1_init RX6).before #[Value.ref b] s = true := hts0 _ (List.mem_of_getElem? (i := 125) (by decide +kernel))
  have n42 : (Cond.methodLinkNest RX6 42 yX5_init RX6).before #[Value.ref b] s = true := hts0 _ (List.mem_of_getElem? (i := 146) (by decide +kernel))
  have hN : NX6 s := ⟨va_Nw.of rfl n20, va_Nw.of rfl n42, va_AO.of wX5, va_Nw.of rfl n34, va_AO.of wX4⟩
  obtain ⟨aI, aI1, aI2⟩ := ar_prim (hg _ wa_int)
  obtain ⟨aZ, aZ1, aZ2⟩ := ar_prim (hg _ wa_bool)
  obtain ⟨aR, aR1, aR2⟩ := ar_obj wX4
  obtain ⟨aS, aS1, aS2⟩ := ar_obj wX5
  obtain ⟨g, hgg⟩ : ∃ g : Gh, g = (dC, dI, aI, aZ, aR, aS) := ⟨_, rfl⟩
  have hK : va_K (gD g) vwCl (gT g) s := by
    subst hgg
    refine ⟨hKc, fun k q hq => ?_⟩
    match k, hq with
    | 0, hq => cases hq; exact ⟨aI1, aI2⟩
    | 1, hq => cases hq; exact ⟨aZ1, aZ2⟩
    | 2, hq => cases hq; exact ⟨aR1, aR2⟩
    | 3, hq => cases hq; exact ⟨aS1, aS2⟩
    | k + 4, hq => simp [gT] at hq
  have hS : va_S (fun q : Nat => s.heap.size ≤ q) s.heap s.heap [] := va_S.rf
  have hP : va_P (gD g) vwCl [] s.heap := fun k q h => by simp at h
  have hD : va_D (fun q : Nat => s.heap.size ≤ q) [] := ⟨fun i j p q h => by simp at h, fun k q h => by simp at h⟩
  have hl := lv_entry ([.ref b]) (n := 4) (Nat.le_of_ble_eq_true rfl)
  rw [lg_entry_eq]
  generalize (lg_sl ([.ref b]) ++ List.replicate (4 - (lg_sl ([.ref b])).length) Slot.unset).toArray = ls at hl ⊢
  have hl : lv_has ls 4 [(0, .ref b)] := hl
  refine va_new (cc := cL_law) (own := RL) (ci := 4) (fs := [.null, .null, .null, .null, .int 0, .int 0]) (C := RX6) (T := TX6) (N := 6) hx hb hts in_X6 tyX6 tyX6_ok hown (hts _ kl_L_7) (hts _ ib_X6) (hts _ in9_X6) hK hP hD hS hA rfl (fun j hj => by rcases (show j = 0 ∨ j = 1 ∨ j = 2 ∨ j = 3 ∨ j = 4 ∨ j = 5 by omega) with rfl | rfl | rfl | rfl | rfl | rfl <;> rfl) (Nat.le_of_ble_eq_true rfl) (Nat.le_of_ble_eq_true rfl) dL_law_0 (fun a0 H hP hD hS => ?_)
  have hP : va_P (gD g) vwCl [(a0, .inr (4, [.null, .null, .null, .null, .int 0, .int 0]))] H := hP
  have hD : va_D (fun q : Nat => s.heap.size ≤ q) [(a0, .inr (4, [.null, .null, .null, .null, .int 0, .int 0]))] := hD
  refine W.widen (k := 1) (n := 6) (Nat.le_of_ble_eq_true rfl) (Nat.le_of_ble_eq_true rfl) ?_
  refine lv_dup hx hb dL_law_3 rfl ?_
  have hPc := hP.sub (ws' := [(a0, .inr (4, [.null, .null, .null, .null, .int 0, .int 0]))]) [0] rfl
  have hDc := hD.sub (ws' := [(a0, .inr (4, [.null, .null, .null, .null, .int 0, .int 0]))]) [0] (by decide) rfl
  have hFc := va_free (wc := [(a0, .inr (4, [.null, .null, .null, .null, .int 0, .int 0]))]) hD hS hA [0] rfl
  refine va_callv (va_runI (As := []) (rest := [.ref a0]) ⟨hx, hb, hml, hown, hts⟩ (c_X6_init l g a0 H.size) (cwI 0 hts gi_X6 rfl rfl rfl (hts _ in9_X6) (hts _ ml_L_9) (hts _ im9_X6) rfl (by decide +kernel) ⟨Nat.le_of_ble_eq_true rfl, Nat.le_of_ble_eq_true rfl⟩) ⟨fun a U gg mk q => by obtain ⟨q0, q1, qP, qK, qD, qN⟩ := q; exact ⟨q0, q1, qP, va_K.moved (u := U) (U := U.calling gg mk a) (Vm.Alike.refl U.vm) qK, qD, NX6_call qN⟩, fun U hU hW => ⟨rfl, by rw [hU], by rw [hU]; exact hPc, va_K.moved hW.alike hK, hDc.weaken (fun _ _ _ _ => trivial), NX6_warm hW hN⟩⟩ rfl rfl hl.1 rfl (lv_room (Nat.le_of_ble_eq_true rfl)) dL_law_4 ⟨Nat.le_of_ble_eq_true rfl, Nat.le_of_ble_eq_true rfl⟩) hS (fun q _ h => hFc q h) hFc (fun u1 t H1 locs ht hvm hwu1 hB hz1 hk1 hS => ?_)
  obtain ⟨hP1, hK1, hD1⟩ := hB
  rw [ht] at hP1
  clear hK1
  have hwu1 : u1 0 = a0 := hwu1
  obtain ⟨hP, hD⟩ := va_join (wr := []) (w1 := wv (eC g u1 σ0) u1 23) hP hD [0] [] rfl rfl (by decide) (by decide) hk1 hFc hP1 hD1
  generalize H1 = H at hP hS ⊢
  clear hP1 hD1 hPc hDc hFc hk1 hz1
  have hP : va_P (gD g) vwCl (wv (eC g u1 σ0) u1 23) H := hP
  have hD : va_D (fun q : Nat => s.heap.size ≤ q) (wv (eC g u1 σ0) u1 23) := hD
  refine W.widen (k := 23) (n := 333) (Nat.le_of_ble_eq_true rfl) (Nat.le_of_ble_eq_true rfl) ?_
  refine lv_astore_n (lv' := [(1, .ref a0), (0, .ref b)]) hx hb dL_law_7 rfl hl (by decide) rfl (fun ls hl => ?_)
  refine va_new (cc := cL_law) (own := RL) (ci := 5) (fs := [.int 0, .int 0, .int 0, .null, .int 0, .null, .null, .null, .null, .null, .int 0, .int 0, .int 0, .int 0, .null, .null, .null, .null, .null, .null, .null, .null, .int 0, .null, .null, .null, .null, .null, .null, .null, .int 0]) (C := RX7) (T := TX7) (N := 31) hx hb hts in_X7 tyX7 tyX7_ok hown (hts _ kl_L_10) (hts _ ib_X7) (hts _ in9_X7) hK hP hD hS hA rfl (fun j hj => by rcases (show j = 0 ∨ j = 1 ∨ j = 2 ∨ j = 3 ∨ j = 4 ∨ j = 5 ∨ j = 6 ∨ j = 7 ∨ j = 8 ∨ j = 9 ∨ j = 10 ∨ j = 11 ∨ j = 12 ∨ j = 13 ∨ j = 14 ∨ j = 15 ∨ j = 16 ∨ j = 17 ∨ j = 18 ∨ j = 19 ∨ j = 20 ∨ j = 21 ∨ j = 22 ∨ j = 23 ∨ j = 24 ∨ j = 25 ∨ j = 26 ∨ j = 27 ∨ j = 28 ∨ j = 29 ∨ j = 30 by omega) with rfl | rfl | rfl | rfl | rfl | rfl | rfl | rfl | rfl | rfl | rfl | rfl | rfl | rfl | rfl | rfl | rfl | rfl | rfl | rfl | rfl | rfl | rfl | rfl | rfl | rfl | rfl | rfl | rfl | rfl | rfl <;> rfl) (Nat.le_of_ble_eq_true rfl) (Nat.le_of_ble_eq_true rfl) dL_law_8 (fun b0 H hP hD hS => ?_)
  have hP : va_P (gD g) vwCl (wv (eC g u1 σ0) u1 23 ++ [(b0, .inr (5, [.int 0, .int 0, .int 0, .null, .int 0, .null, .null, .null, .null, .null, .int 0, .int 0, .int 0, .int 0, .null, .null, .null, .null, .null, .null, .null, .null, .int 0, .null, .null, .null, .null, .null, .null, .null, .int 0]))]) H := hP
  have hD : va_D (fun q : Nat => s.heap.size ≤ q) (wv (eC g u1 σ0) u1 23 ++ [(b0, .inr (5, [.int 0, .int 0, .int 0, .null, .int 0, .null, .null, .null, .null, .null, .int 0, .int 0, .int 0, .int 0, .null, .null, .null, .null, .null, .null, .null, .null, .int 0, .null, .null, .null, .null, .null, .null, .null, .int 0]))]) := hD
  refine W.widen (k := 24) (n := 364) (Nat.le_of_ble_eq_true rfl) (Nat.le_of_ble_eq_true rfl) ?_
  refine lv_dup hx hb dL_law_11 rfl ?_
  have hPc := hP.sub (ws' := [(b0, .inr (5, [.int 0, .int 0, .int 0, .null, .int 0, .null, .null, .null, .null, .null, .int 0, .int 0, .int 0, .int 0, .null, .null, .null, .null, .null, .null, .null, .null, .int 0, .null, .null, .null, .null, .null, .null, .null, .int 0]))]) [23] rfl
  have hDc := hD.sub (ws' := [(b0, .inr (5, [.int 0, .int 0, .int 0, .null, .int 0, .null, .null, .null, .null, .null, .int 0, .int 0, .int 0, .int 0, .null, .null, .null, .null, .null, .null, .null, .null, .int 0, .null, .null, .null, .null, .null, .null, .null, .int 0]))]) [23] (by decide) rfl
  have hFc := va_free (wc := [(b0, .inr (5, [.int 0, .int 0, .int 0, .null, .int 0, .null, .null, .null, .null, .null, .int 0, .int 0, .int 0, .int 0, .null, .null, .null, .null, .null, .null, .null, .null, .int 0, .null, .null, .null, .null, .null, .null, .null, .int 0]))]) hD hS hA [23] rfl
  refine va_callv (va_runI (As := []) (rest := [.ref b0]) ⟨hx, hb, hml, hown, hts⟩ (c_X7_init l g b0 H.size) (cwI 0 hts gi_X7 rfl rfl rfl (hts _ in9_X7) (hts _ ml_L_12) (hts _ im9_X7) rfl (by decide +kernel) ⟨Nat.le_of_ble_eq_true rfl, Nat.le_of_ble_eq_true rfl⟩) ⟨fun a U gg mk q => by obtain ⟨q0, q1, qP, qK, qD⟩ := q; exact ⟨q0, q1, qP, va_K.moved (u := U) (U := U.calling gg mk a) (Vm.Alike.refl U.vm) qK, qD⟩, fun U hU hW => ⟨rfl, by rw [hU], by rw [hU]; exact hPc, va_K.moved hW.alike hK, hDc.weaken (fun _ _ _ _ => trivial)⟩⟩ rfl rfl hl.1 rfl (lv_room (Nat.le_of_ble_eq_true rfl)) dL_law_12 ⟨Nat.le_of_ble_eq_true rfl, Nat.le_of_ble_eq_true rfl⟩) hS (fun q _ h => hFc q h) hFc (fun u2 t H1 locs ht hvm hwu2 hB hz1 hk1 hS => ?_)
  obtain ⟨hP1, hK1, hD1⟩ := hB
  rw [ht] at hP1
  clear hK1
  have hwu2 : u2 0 = b0 := hwu2
  obtain ⟨hP, hD⟩ := va_join (wr := (wv (eC g u1 σ0) u1 23)) (w1 := (wv (eM g u2 τ0) u2 22)) hP hD [23] [0, 1, 2, 3, 4, 5, 6, 7, 8, 9, 10, 11, 12, 13, 14, 15, 16, 17, 18, 19, 20, 21, 22] rfl rfl (by decide) (by decide) hk1 hFc hP1 hD1
  generalize H1 = H at hP hS ⊢
  clear hP1 hD1 hPc hDc hFc hk1 hz1
  have hP8 : va_P (gD g) vwCl (wv (eC g u1 σ0) u1 23 ++ wv (eM g u2 τ0) u2 22) H := hP
  have hD8 : va_D (fun q : Nat => s.heap.size ≤ q) (wv (eC g u1 σ0) u1 23 ++ wv (eM g u2 τ0) u2 22) := hD
  have hS8 := hS
  refine W.widen (k := 100) (n := 10000) (Nat.le_of_ble_eq_true rfl) (Nat.le_of_ble_eq_true rfl) ?_
  refine lv_astore_n (lv' := [(2, .ref b0), (1, .ref a0), (0, .ref b)]) hx hb dL_law_15 rfl hl (by decide) rfl (fun ls hl => ?_)
  refine lv_iconst (v := 0) hx hb dL_law_16 (by decide) ?_
  refine lv_istore_n (lv' := [(3, .int 0), (2, .ref b0), (1, .ref a0), (0, .ref b)]) hx hb dL_law_17 rfl hl (by decide) rfl (fun ls hl => ?_)
  subst hwu1 hwu2
  exact law_loop (g := g) (qc := u1) (qm := u2) hL ⟨hx, hb, hr, hml, hown, hts, hlocks⟩ hX hbl hr hlocks (L + 1) 0 σ0 τ0 _ _ ls (by omega) (by decide) Rel_0 ⟨hK, P_l hP8, P_r hP8, D_l hD8, D_r hD8, fun i j hi hj => D_ne hD8 (x := (u1 i, eC g u1 σ0 i)) (y := (u2 j, eM g u2 τ0 j)) (wv_get hi) (wv_get hj), hS8⟩ (lv_sub hl [3, 2, 1, 0] rfl)
