/-! CONSTRUCTORS -/
theorem i_Ki {g : Gh} {s : State} (hK : va_K (gD g) vwCl (gT g) s) {cA : ClassId} (h : va_K (gD g) vwCl (gT g ++ [(cA, .int)]) s) : g.2.2.1 = cA := by
  have a : s.vm.findClass ("[" ++ FieldType.int.toString) = some cA := (h.2 4 (cA, .int) rfl).2
  have b : s.vm.findClass ("[" ++ FieldType.int.toString) = some g.2.2.1 := (hK.2 0 (g.2.2.1, .int) rfl).2
  exact Option.some.inj (b.symm.trans a)
theorem i_Kb {g : Gh} {s : State} (hK : va_K (gD g) vwCl (gT g) s) {cA : ClassId} (h : va_K (gD g) vwCl (gT g ++ [(cA, .boolean)]) s) : g.2.2.2.1 = cA := by
  have a : s.vm.findClass ("[" ++ FieldType.boolean.toString) = some cA := (h.2 4 (cA, .boolean) rfl).2
  have b : s.vm.findClass ("[" ++ FieldType.boolean.toString) = some g.2.2.2.1 := (hK.2 1 (g.2.2.2.1, .boolean) rfl).2
  exact Option.some.inj (b.symm.trans a)
theorem wa_int : Cond.arrayClass .int ∈ lw_g := lw_mem 97 (by decide +kernel) rfl
theorem wa_bool : Cond.arrayClass .boolean ∈ lw_g := lw_mem 636 (by decide +kernel) rfl
theorem oi_m : Cond.instanceMethod objectInit ∈ lw_g := lw_mem 59 (by decide +kernel) rfl
theorem oi_c : Cond.code objectInit ⟨#[0xb1]⟩ 1 none ∈ lw_g := lw_mem 60 (by decide +kernel) rfl
theorem oi_X7 : Cond.methodLink RX7 1 objectInit ∈ lw_g := lw_mem 541 (by decide +kernel) rfl
theorem oi_X6 : Cond.methodLink RX6 3 objectInit ∈ lw_g := lw_mem 58 (by decide +kernel) rfl
theorem oi_X2 : Cond.methodLink RX2 3 objectInit ∈ lw_g := lw_mem 66 (by decide +kernel) rfl
theorem oi_X4 : Cond.methodLink RX4 3 objectInit ∈ lw_g := lw_mem 73 (by decide +kernel) rfl
theorem oi_X1 : Cond.methodLink RX1 3 objectInit ∈ lw_g := lw_mem 128 (by decide +kernel) rfl
theorem oi_X5 : Cond.methodLink RX5 3 objectInit ∈ lw_g := lw_mem 149 (by decide +kernel) rfl
set_option maxRecDepth 100000 in
set_option maxHeartbeats 4000000 in
theorem c_X4_init (l : Launch) (g : Gh) (h0 sz : Nat) : Met l yX4_init (wU yX4_init cX4_init 1 none) ({ frames := 1, cells := 0, slots := 0, locals := 40 }) (va_Pc [.ref h0] (fun U => U.heap.size = sz ∧ va_P (gD g) vwCl [(h0, .inr (2, [.int 0, .int 0, .int 0, .int 0, .int 0]))] U.heap ∧ va_K (gD g) vwCl (gT g) U ∧ va_D (fun _ => True) [(h0, .inr (2, [.int 0, .int 0, .int 0, .int 0, .int 0]))])) (va_Qv (fun u : Nat → Nat => u 0 = h0) (fun (u : Nat → Nat) t => va_P (gD g) vwCl ([((u 0), .inr (2, [.int (0), .int (0), .int (0), .int (0), .int (0)]))]) t.heap ∧ va_K (gD g) vwCl (gT g) t ∧ va_D (va_A [(h0, .inr (2, [.int 0, .int 0, .int 0, .int 0, .int 0]))] sz) ([((u 0), .inr (2, [.int (0), .int (0), .int (0), .int (0), .int (0)]))])) (va_A [(h0, .inr (2, [.int 0, .int 0, .int 0, .int 0, .int 0]))] sz)) 0 0 (va_A [(h0, .inr (2, [.int 0, .int 0, .int 0, .int 0, .int 0]))] sz) := by
  refine Met.ofW (cc := cX4_init) (maxL := 1) (ret := none) (by decide) rfl ?_
  intro p e s m args below meth c s₁ B hml hv
  obtain ⟨rfl, hsz, hP, hK, hD0⟩ := hv
  have hx := B.exec
  have hb := B.bytes
  have hr := B.returns
  have hts0 := atoms_spec (ws := wU yX4_init cX4_init 1 none) B.pre
  have hts : ∀ w ∈ lw_g, w.before #[Value.ref h0] s = true := fun w h => hts0 w (List.mem_cons_of_mem _ h)
  have hown : s.vm.findClass RX4 = some m.cls := findClass_of_methodNamed B.named
  have hlocks := B.notSynchronized
  have hin : meth.name = "<init>" := (name_of_methodNamed B.named B.method).1
  subst hsz
  have hD := hD0.self (sz := s.heap.size)
  generalize hAe : va_A [(h0, .inr (2, [.int 0, .int 0, .int 0, .int 0, .int 0]))] s.heap.size = A at hD ⊢
  have hA : ∀ q : Nat, s.heap.size ≤ q → A q := fun q h => by rw [← hAe]; exact Or.inr h
  have hS : va_S A s.heap s.heap [] := va_S.rf
  have hl := lv_entry ([.ref h0]) (n := 1) (Nat.le_of_ble_eq_true rfl)
  rw [lg_entry_eq]
  generalize (lg_sl ([.ref h0]) ++ List.replicate (1 - (lg_sl ([.ref h0])).length) Slot.unset).toArray = ls at hl ⊢
  have hl : lv_has ls 1 [(0, .ref h0)] := hl
  refine lv_aload_n hx hb dX4_init_0 rfl (lv_at hl 0 rfl) ?_
  refine W.objInit hx hb hown (hts _ oi_X4) (hts _ oi_m) (hts _ oi_c) rfl (by rw [hml]; exact hl.1) rfl dX4_init_1 (Nat.le_of_ble_eq_true rfl) (Nat.le_of_ble_eq_true rfl) ?_
  refine W.eq (g2 := F0 m 4 ls []) rfl ?_
  refine lv_aload_n hx hb dX4_init_4 rfl (lv_at hl 0 rfl) ?_
  refine lv_iconst (v := 0) hx hb dX4_init_5 (by decide) ?_
  refine va_put (D := gD g) (ci := 2) (v := .int (0)) (ty := .int) (C := RX4) (T := TX4) (N := 5) hx hb hts in_X4 tyX4 tyX4_ok nmX4 hown hK hP hD hS 0 rfl rfl 0 (by decide) (hts _ fl_X4_9) (fun _ h9 => h9) rfl (by decide +kernel) rfl rfl (Nat.le_of_ble_eq_true rfl) dX4_init_6 (fun H locs hP hD hS => ?_)
  have hP : va_P (gD g) vwCl [(h0, .inr (2, [.int (0), .int 0, .int 0, .int 0, .int 0]))] H := hP
  have hD : va_D A [(h0, .inr (2, [.int (0), .int 0, .int 0, .int 0, .int 0]))] := hD
  refine lv_aload_n hx hb dX4_init_9 rfl (lv_at hl 0 rfl) ?_
  refine lv_iconst (v := 0) hx hb dX4_init_10 (by decide) ?_
  refine va_put (D := gD g) (ci := 2) (v := .int (0)) (ty := .int) (C := RX4) (T := TX4) (N := 5) hx hb hts in_X4 tyX4 tyX4_ok nmX4 hown hK hP hD hS 0 rfl rfl 1 (by decide) (hts _ fl_X4_15) (fun _ h9 => h9) rfl (by decide +kernel) rfl rfl (Nat.le_of_ble_eq_true rfl) dX4_init_11 (fun H locs hP hD hS => ?_)
  have hP : va_P (gD g) vwCl [(h0, .inr (2, [.int (0), .int (0), .int 0, .int 0, .int 0]))] H := hP
  have hD : va_D A [(h0, .inr (2, [.int (0), .int (0), .int 0, .int 0, .int 0]))] := hD
  refine lv_aload_n hx hb dX4_init_14 rfl (lv_at hl 0 rfl) ?_
  refine lv_iconst (v := 0) hx hb dX4_init_15 (by decide) ?_
  refine va_put (D := gD g) (ci := 2) (v := .int (0)) (ty := .int) (C := RX4) (T := TX4) (N := 5) hx hb hts in_X4 tyX4 tyX4_ok nmX4 hown hK hP hD hS 0 rfl rfl 2 (by decide) (hts _ fl_X4_18) (fun _ h9 => h9) rfl (by decide +kernel) rfl rfl (Nat.le_of_ble_eq_true rfl) dX4_init_16 (fun H locs hP hD hS => ?_)
  have hP : va_P (gD g) vwCl [(h0, .inr (2, [.int (0), .int (0), .int (0), .int 0, .int 0]))] H := hP
  have hD : va_D A [(h0, .inr (2, [.int (0), .int (0), .int (0), .int 0, .int 0]))] := hD
  refine lv_aload_n hx hb dX4_init_19 rfl (lv_at hl 0 rfl) ?_
  refine lv_iconst (v := 0) hx hb dX4_init_20 (by decide) ?_
  refine va_put (D := gD g) (ci := 2) (v := .int (0)) (ty := .int) (C := RX4) (T := TX4) (N := 5) hx hb hts in_X4 tyX4 tyX4_ok nmX4 hown hK hP hD hS 0 rfl rfl 3 (by decide) (hts _ fl_X4_21) (fun _ h9 => h9) rfl (by decide +kernel) rfl rfl (Nat.le_of_ble_eq_true rfl) dX4_init_21 (fun H locs hP hD hS => ?_)
  have hP : va_P (gD g) vwCl [(h0, .inr (2, [.int (0), .int (0), .int (0), .int (0), .int 0]))] H := hP
  have hD : va_D A [(h0, .inr (2, [.int (0), .int (0), .int (0), .int (0), .int 0]))] := hD
  refine lv_aload_n hx hb dX4_init_24 rfl (lv_at hl 0 rfl) ?_
  refine lv_iconst (v := 0) hx hb dX4_init_25 (by decide) ?_
  refine va_put (D := gD g) (ci := 2) (v := .int (0)) (ty := .int) (C := RX4) (T := TX4) (N := 5) hx hb hts in_X4 tyX4 tyX4_ok nmX4 hown hK hP hD hS 0 rfl rfl 4 (by decide) (hts _ fl_X4_24) (fun _ h9 => h9) rfl (by decide +kernel) rfl rfl (Nat.le_of_ble_eq_true rfl) dX4_init_26 (fun H locs hP hD hS => ?_)
  have hP : va_P (gD g) vwCl [(h0, .inr (2, [.int (0), .int (0), .int (0), .int (0), .int (0)]))] H := hP
  have hD : va_D A [(h0, .inr (2, [.int (0), .int (0), .int (0), .int (0), .int (0)]))] := hD
  exact W.vret hx hb hr (fun t ht hW => ⟨⟨fun k => ([h0] : List Nat).getD k 0, rfl, rfl, by rw [ht]; exact hP, va_K.moved hW.alike hK, hD⟩, hS.F ht⟩) hS.2.2 dX4_init_29
set_option maxRecDepth 100000 in
set_option maxHeartbeats 4000000 in
theorem c_X1_init (l : Launch) (g : Gh) (h0 sz : Nat) : Met l yX1_init (wU yX1_init cX1_init 1 none) ({ frames := 1, cells := 3, slots := 24, locals := 40 }) (va_Pc [.ref h0] (fun U => U.heap.size = sz ∧ va_P (gD g) vwCl [(h0, .inr (0, [.null, .null, .null, .int 0]))] U.heap ∧ va_K (gD g) vwCl (gT g) U ∧ va_D (fun _ => True) [(h0, .inr (0, [.null, .null, .null, .int 0]))])) (va_Qv (fun u : Nat → Nat => u 0 = h0) (fun (u : Nat → Nat) t => va_P (gD g) vwCl ([((u 0), .inr (0, [.ref (u 1), .ref (u 2), .ref (u 3), .int (0)])), ((u 1), .inl (g.2.2.1, 8, .inl (fun _ => 0))), ((u 2), .inl (g.2.2.1, 8, .inl (fun _ => 0))), ((u 3), .inl (g.2.2.1, 8, .inl (fun _ => 0)))]) t.heap ∧ va_K (gD g) vwCl (gT g) t ∧ va_D (va_A [(h0, .inr (0, [.null, .null, .null, .int 0]))] sz) ([((u 0), .inr (0, [.ref (u 1), .ref (u 2), .ref (u 3), .int (0)])), ((u 1), .inl (g.2.2.1, 8, .inl (fun _ => 0))), ((u 2), .inl (g.2.2.1, 8, .inl (fun _ => 0))), ((u 3), .inl (g.2.2.1, 8, .inl (fun _ => 0)))])) (va_A [(h0, .inr (0, [.null, .null, .null, .int 0]))] sz)) 3 24 (va_A [(h0, .inr (0, [.null, .null, .null, .int 0]))] sz) := by
  refine Met.ofW (cc := cX1_init) (maxL := 1) (ret := none) (by decide) rfl ?_
  intro p e s m args below meth c s₁ B hml hv
  obtain ⟨rfl, hsz, hP, hK, hD0⟩ := hv
  have hx := B.exec
  have hb := B.bytes
  have hr := B.returns
  have hts0 := atoms_spec (ws := wU yX1_init cX1_init 1 none) B.pre
  have hts : ∀ w ∈ lw_g, w.before #[Value.ref h0] s = true := fun w h => hts0 w (List.mem_cons_of_mem _ h)
  have hown : s.vm.findClass RX1 = some m.cls := findClass_of_methodNamed B.named
  have hlocks := B.notSynchronized
  have hin : meth.name = "<init>" := (name_of_methodNamed B.named B.method).1
  subst hsz
  have hD := hD0.self (sz := s.heap.size)
  generalize hAe : va_A [(h0, .inr (0, [.null, .null, .null, .int 0]))] s.heap.size = A at hD ⊢
  have hA : ∀ q : Nat, s.heap.size ≤ q → A q := fun q h => by rw [← hAe]; exact Or.inr h
  have hS : va_S A s.heap s.heap [] := va_S.rf
  have hl := lv_entry ([.ref h0]) (n := 1) (Nat.le_of_ble_eq_true rfl)
  rw [lg_entry_eq]
  generalize (lg_sl ([.ref h0]) ++ List.replicate (1 - (lg_sl ([.ref h0])).length) Slot.unset).toArray = ls at hl ⊢
  have hl : lv_has ls 1 [(0, .ref h0)] := hl
  refine lv_aload_n hx hb dX1_init_0 rfl (lv_at hl 0 rfl) ?_
  refine W.objInit hx hb hown (hts _ oi_X1) (hts _ oi_m) (hts _ oi_c) rfl (by rw [hml]; exact hl.1) rfl dX1_init_1 (Nat.le_of_ble_eq_true rfl) (Nat.le_of_ble_eq_true rfl) ?_
  refine W.eq (g2 := F0 m 4 ls []) rfl ?_
  refine lv_aload_n hx hb dX1_init_4 rfl (lv_at hl 0 rfl) ?_
  refine lv_bipush (v := 8) hx hb dX1_init_5 (by decide) ?_
  refine va_newa (atype := .int) (a0 := (8, .inl fun _ => 0)) hx hb (hts _ wa_int) rfl hK hP hD hS hA (fun _ => rfl) (by decide) (by decide) (Nat.le_of_ble_eq_true rfl) (Nat.le_of_ble_eq_true rfl) (Nat.le_of_ble_eq_true rfl) dX1_init_7 (fun q1 cA H hK1 hP hD hS => ?_)
  obtain rfl := i_Ki hK hK1
  have hP : va_P (gD g) vwCl [(h0, .inr (0, [.null, .null, .null, .int 0])), (q1, .inl (g.2.2.1, 8, .inl (fun _ => 0)))] H := hP
  have hD : va_D A [(h0, .inr (0, [.null, .null, .null, .int 0])), (q1, .inl (g.2.2.1, 8, .inl (fun _ => 0)))] := hD
  refine W.widen (k := 1) (n := 8) (Nat.le_of_ble_eq_true rfl) (Nat.le_of_ble_eq_true rfl) ?_
  refine va_putF (D := gD g) (ci := 0) (v := .ref q1) (ty := (.array .int)) (C := RX1) (T := TX1) (N := 4) hx hb hts in_X1 tyX1 tyX1_ok nmX1 hown hK hP hD hS 0 rfl rfl 0 (by decide) (hts _ fl_X1_9) (fun _ h9 => h9) rfl hin rfl (by decide +kernel) rfl rfl (Nat.le_of_ble_eq_true rfl) dX1_init_9 (fun H locs hP hD hS => ?_)
  have hP : va_P (gD g) vwCl [(h0, .inr (0, [.ref q1, .null, .null, .int 0])), (q1, .inl (g.2.2.1, 8, .inl (fun _ => 0)))] H := hP
  have hD : va_D A [(h0, .inr (0, [.ref q1, .null, .null, .int 0])), (q1, .inl (g.2.2.1, 8, .inl (fun _ => 0)))] := hD
  refine lv_aload_n hx hb dX1_init_12 rfl (lv_at hl 0 rfl) ?_
  refine lv_bipush (v := 8) hx hb dX1_init_13 (by decide) ?_
  refine va_newa (atype := .int) (a0 := (8, .inl fun _ => 0)) hx hb (hts _ wa_int) rfl hK hP hD hS hA (fun _ => rfl) (by decide) (by decide) (Nat.le_of_ble_eq_true rfl) (Nat.le_of_ble_eq_true rfl) (Nat.le_of_ble_eq_true rfl) dX1_init_15 (fun q2 cA H hK1 hP hD hS => ?_)
  obtain rfl := i_Ki hK hK1
  have hP : va_P (gD g) vwCl [(h0, .inr (0, [.ref q1, .null, .null, .int 0])), (q1, .inl (g.2.2.1, 8, .inl (fun _ => 0))), (q2, .inl (g.2.2.1, 8, .inl (fun _ => 0)))] H := hP
  have hD : va_D A [(h0, .inr (0, [.ref q1, .null, .null, .int 0])), (q1, .inl (g.2.2.1, 8, .inl (fun _ => 0))), (q2, .inl (g.2.2.1, 8, .inl (fun _ => 0)))] := hD
  refine W.widen (k := 2) (n := 16) (Nat.le_of_ble_eq_true rfl) (Nat.le_of_ble_eq_true rfl) ?_
  refine va_putF (D := gD g) (ci := 0) (v := .ref q2) (ty := (.array .int)) (C := RX1) (T := TX1) (N := 4) hx hb hts in_X1 tyX1 tyX1_ok nmX1 hown hK hP hD hS 0 rfl rfl 1 (by decide) (hts _ fl_X1_15) (fun _ h9 => h9) rfl hin rfl (by decide +kernel) rfl rfl (Nat.le_of_ble_eq_true rfl) dX1_init_17 (fun H locs hP hD hS => ?_)
  have hP : va_P (gD g) vwCl [(h0, .inr (0, [.ref q1, .ref q2, .null, .int 0])), (q1, .inl (g.2.2.1, 8, .inl (fun _ => 0))), (q2, .inl (g.2.2.1, 8, .inl (fun _ => 0)))] H := hP
  have hD : va_D A [(h0, .inr (0, [.ref q1, .ref q2, .null, .int 0])), (q1, .inl (g.2.2.1, 8, .inl (fun _ => 0))), (q2, .inl (g.2.2.1, 8, .inl (fun _ => 0)))] := hD
  refine lv_aload_n hx hb dX1_init_20 rfl (lv_at hl 0 rfl) ?_
  refine lv_bipush (v := 8) hx hb dX1_init_21 (by decide) ?_
  refine va_newa (atype := .int) (a0 := (8, .inl fun _ => 0)) hx hb (hts _ wa_int) rfl hK hP hD hS hA (fun _ => rfl) (by decide) (by decide) (Nat.le_of_ble_eq_true rfl) (Nat.le_of_ble_eq_true rfl) (Nat.le_of_ble_eq_true rfl) dX1_init_23 (fun q3 cA H hK1 hP hD hS => ?_)
  obtain rfl := i_Ki hK hK1
  have hP : va_P (gD g) vwCl [(h0, .inr (0, [.ref q1, .ref q2, .null, .int 0])), (q1, .inl (g.2.2.1, 8, .inl (fun _ => 0))), (q2, .inl (g.2.2.1, 8, .inl (fun _ => 0))), (q3, .inl (g.2.2.1, 8, .inl (fun _ => 0)))] H := hP
  have hD : va_D A [(h0, .inr (0, [.ref q1, .ref q2, .null, .int 0])), (q1, .inl (g.2.2.1, 8, .inl (fun _ => 0))), (q2, .inl (g.2.2.1, 8, .inl (fun _ => 0))), (q3, .inl (g.2.2.1, 8, .inl (fun _ => 0)))] := hD
  refine W.widen (k := 3) (n := 24) (Nat.le_of_ble_eq_true rfl) (Nat.le_of_ble_eq_true rfl) ?_
  refine va_putF (D := gD g) (ci := 0) (v := .ref q3) (ty := (.array .int)) (C := RX1) (T := TX1) (N := 4) hx hb hts in_X1 tyX1 tyX1_ok nmX1 hown hK hP hD hS 0 rfl rfl 2 (by decide) (hts _ fl_X1_18) (fun _ h9 => h9) rfl hin rfl (by decide +kernel) rfl rfl (Nat.le_of_ble_eq_true rfl) dX1_init_25 (fun H locs hP hD hS => ?_)
  have hP : va_P (gD g) vwCl [(h0, .inr (0, [.ref q1, .ref q2, .ref q3, .int 0])), (q1, .inl (g.2.2.1, 8, .inl (fun _ => 0))), (q2, .inl (g.2.2.1, 8, .inl (fun _ => 0))), (q3, .inl (g.2.2.1, 8, .inl (fun _ => 0)))] H := hP
  have hD : va_D A [(h0, .inr (0, [.ref q1, .ref q2, .ref q3, .int 0])), (q1, .inl (g.2.2.1, 8, .inl (fun _ => 0))), (q2, .inl (g.2.2.1, 8, .inl (fun _ => 0))), (q3, .inl (g.2.2.1, 8, .inl (fun _ => 0)))] := hD
  refine lv_aload_n hx hb dX1_init_28 rfl (lv_at hl 0 rfl) ?_
  refine lv_iconst (v := 0) hx hb dX1_init_29 (by decide) ?_
  refine va_put (D := gD g) (ci := 0) (v := .int (0)) (ty := .int) (C := RX1) (T := TX1) (N := 4) hx hb hts in_X1 tyX1 tyX1_ok nmX1 hown hK hP hD hS 0 rfl rfl 3 (by decide) (hts _ fl_X1_21) (fun _ h9 => h9) rfl (by decide +kernel) rfl rfl (Nat.le_of_ble_eq_true rfl) dX1_init_30 (fun H locs hP hD hS => ?_)
  have hP : va_P (gD g) vwCl [(h0, .inr (0, [.ref q1, .ref q2, .ref q3, .int (0)])), (q1, .inl (g.2.2.1, 8, .inl (fun _ => 0))), (q2, .inl (g.2.2.1, 8, .inl (fun _ => 0))), (q3, .inl (g.2.2.1, 8, .inl (fun _ => 0)))] H := hP
  have hD : va_D A [(h0, .inr (0, [.ref q1, .ref q2, .ref q3, .int (0)])), (q1, .inl (g.2.2.1, 8, .inl (fun _ => 0))), (q2, .inl (g.2.2.1, 8, .inl (fun _ => 0))), (q3, .inl (g.2.2.1, 8, .inl (fun _ => 0)))] := hD
  exact W.vret hx hb hr (fun t ht hW => ⟨⟨fun k => ([h0, q1, q2, q3] : List Nat).getD k 0, rfl, rfl, by rw [ht]; exact hP, va_K.moved hW.alike hK, hD⟩, hS.F ht⟩) hS.2.2 dX1_init_33
set_option maxRecDepth 100000 in
set_option maxHeartbeats 4000000 in
theorem c_X5_init (l : Launch) (g : Gh) (h0 sz : Nat) : Met l yX5_init (wU yX5_init cX5_init 1 none) ({ frames := 1, cells := 1, slots := 60, locals := 40 }) (va_Pc [.ref h0] (fun U => U.heap.size = sz ∧ va_P (gD g) vwCl [(h0, .inr (3, [.null, .int 0, .int 0]))] U.heap ∧ va_K (gD g) vwCl (gT g) U ∧ va_D (fun _ => True) [(h0, .inr (3, [.null, .int 0, .int 0]))])) (va_Qv (fun u : Nat → Nat => u 0 = h0) (fun (u : Nat → Nat) t => va_P (gD g) vwCl ([((u 0), .inr (3, [.ref (u 1), .int (-1), .int (0)])), ((u 1), .inl (g.2.2.1, 60, .inl (fun _ => 0)))]) t.heap ∧ va_K (gD g) vwCl (gT g) t ∧ va_D (va_A [(h0, .inr (3, [.null, .int 0, .int 0]))] sz) ([((u 0), .inr (3, [.ref (u 1), .int (-1), .int (0)])), ((u 1), .inl (g.2.2.1, 60, .inl (fun _ => 0)))])) (va_A [(h0, .inr (3, [.null, .int 0, .int 0]))] sz)) 1 60 (va_A [(h0, .inr (3, [.null, .int 0, .int 0]))] sz) := by
  refine Met.ofW (cc := cX5_init) (maxL := 1) (ret := none) (by decide) rfl ?_
  intro p e s m args below meth c s₁ B hml hv
  obtain ⟨rfl, hsz, hP, hK, hD0⟩ := hv
  have hx := B.exec
  have hb := B.bytes
  have hr := B.returns
  have hts0 := atoms_spec (ws := wU yX5_init cX5_init 1 none) B.pre
  have hts : ∀ w ∈ lw_g, w.before #[Value.ref h0] s = true := fun w h => hts0 w (List.mem_cons_of_mem _ h)
  have hown : s.vm.findClass RX5 = some m.cls := findClass_of_methodNamed B.named
  have hlocks := B.notSynchronized
  have hin : meth.name = "<init>" := (name_of_methodNamed B.named B.method).1
  subst hsz
  have hD := hD0.self (sz := s.heap.size)
  generalize hAe : va_A [(h0, .inr (3, [.null, .int 0, .int 0]))] s.heap.size = A at hD ⊢
  have hA : ∀ q : Nat, s.heap.size ≤ q → A q := fun q h => by rw [← hAe]; exact Or.inr h
  have hS : va_S A s.heap s.heap [] := va_S.rf
  have hl := lv_entry ([.ref h0]) (n := 1) (Nat.le_of_ble_eq_true rfl)
  rw [lg_entry_eq]
  generalize (lg_sl ([.ref h0]) ++ List.replicate (1 - (lg_sl ([.ref h0])).length) Slot.unset).toArray = ls at hl ⊢
  have hl : lv_has ls 1 [(0, .ref h0)] := hl
  refine lv_aload_n hx hb dX5_init_0 rfl (lv_at hl 0 rfl) ?_
  refine W.objInit hx hb hown (hts _ oi_X5) (hts _ oi_m) (hts _ oi_c) rfl (by rw [hml]; exact hl.1) rfl dX5_init_1 (Nat.le_of_ble_eq_true rfl) (Nat.le_of_ble_eq_true rfl) ?_
  refine W.eq (g2 := F0 m 4 ls []) rfl ?_
  refine lv_aload_n hx hb dX5_init_4 rfl (lv_at hl 0 rfl) ?_
  refine lv_bipush (v := 60) hx hb dX5_init_5 (by decide) ?_
  refine va_newa (atype := .int) (a0 := (60, .inl fun _ => 0)) hx hb (hts _ wa_int) rfl hK hP hD hS hA (fun _ => rfl) (by decide) (by decide) (Nat.le_of_ble_eq_true rfl) (Nat.le_of_ble_eq_true rfl) (Nat.le_of_ble_eq_true rfl) dX5_init_7 (fun q1 cA H hK1 hP hD hS => ?_)
  obtain rfl := i_Ki hK hK1
  have hP : va_P (gD g) vwCl [(h0, .inr (3, [.null, .int 0, .int 0])), (q1, .inl (g.2.2.1, 60, .inl (fun _ => 0)))] H := hP
  have hD : va_D A [(h0, .inr (3, [.null, .int 0, .int 0])), (q1, .inl (g.2.2.1, 60, .inl (fun _ => 0)))] := hD
  refine W.widen (k := 1) (n := 60) (Nat.le_of_ble_eq_true rfl) (Nat.le_of_ble_eq_true rfl) ?_
  refine va_putF (D := gD g) (ci := 3) (v := .ref q1) (ty := (.array .int)) (C := RX5) (T := TX5) (N := 3) hx hb hts in_X5 tyX5 tyX5_ok nmX5 hown hK hP hD hS 0 rfl rfl 0 (by decide) (hts _ fl_X5_9) (fun _ h9 => h9) rfl hin rfl (by decide +kernel) rfl rfl (Nat.le_of_ble_eq_true rfl) dX5_init_9 (fun H locs hP hD hS => ?_)
  have hP : va_P (gD g) vwCl [(h0, .inr (3, [.ref q1, .int 0, .int 0])), (q1, .inl (g.2.2.1, 60, .inl (fun _ => 0)))] H := hP
  have hD : va_D A [(h0, .inr (3, [.ref q1, .int 0, .int 0])), (q1, .inl (g.2.2.1, 60, .inl (fun _ => 0)))] := hD
  refine lv_aload_n hx hb dX5_init_12 rfl (lv_at hl 0 rfl) ?_
  refine lv_iconst (v := -1) hx hb dX5_init_13 (by decide) ?_
  refine va_put (D := gD g) (ci := 3) (v := .int (-1)) (ty := .int) (C := RX5) (T := TX5) (N := 3) hx hb hts in_X5 tyX5 tyX5_ok nmX5 hown hK hP hD hS 0 rfl rfl 1 (by decide) (hts _ fl_X5_15) (fun _ h9 => h9) rfl (by decide +kernel) rfl rfl (Nat.le_of_ble_eq_true rfl) dX5_init_14 (fun H locs hP hD hS => ?_)
  have hP : va_P (gD g) vwCl [(h0, .inr (3, [.ref q1, .int (-1), .int 0])), (q1, .inl (g.2.2.1, 60, .inl (fun _ => 0)))] H := hP
  have hD : va_D A [(h0, .inr (3, [.ref q1, .int (-1), .int 0])), (q1, .inl (g.2.2.1, 60, .inl (fun _ => 0)))] := hD
  refine lv_aload_n hx hb dX5_init_17 rfl (lv_at hl 0 rfl) ?_
  refine lv_iconst (v := 0) hx hb dX5_init_18 (by decide) ?_
  refine va_put (D := gD g) (ci := 3) (v := .int (0)) (ty := .int) (C := RX5) (T := TX5) (N := 3) hx hb hts in_X5 tyX5 tyX5_ok nmX5 hown hK hP hD hS 0 rfl rfl 2 (by decide) (hts _ fl_X5_19) (fun _ h9 => h9) rfl (by decide +kernel) rfl rfl (Nat.le_of_ble_eq_true rfl) dX5_init_19 (fun H locs hP hD hS => ?_)
  have hP : va_P (gD g) vwCl [(h0, .inr (3, [.ref q1, .int (-1), .int (0)])), (q1, .inl (g.2.2.1, 60, .inl (fun _ => 0)))] H := hP
  have hD : va_D A [(h0, .inr (3, [.ref q1, .int (-1), .int (0)])), (q1, .inl (g.2.2.1, 60, .inl (fun _ => 0)))] := hD
  exact W.vret hx hb hr (fun t ht hW => ⟨⟨fun k => ([h0, q1] : List Nat).getD k 0, rfl, rfl, by rw [ht]; exact hP, va_K.moved hW.alike hK, hD⟩, hS.F ht⟩) hS.2.2 dX5_init_22
