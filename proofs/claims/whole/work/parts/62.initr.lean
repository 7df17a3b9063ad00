def NX2 (U : State) : Prop := va_Nw (.methodLinkNest RX2 34 yX4_init RX6) U ∧ va_AO RX4 U
def NX6 (U : State) : Prop := va_Nw (.methodLinkNest RX6 20 yX1_init RX6) U ∧ va_Nw (.methodLinkNest RX6 42 yX5_init RX6) U ∧ va_AO RX5 U ∧ NX2 U
theorem NX2_same {u U : State} (h : u.vm = U.vm) (n : NX2 u) : NX2 U := ⟨va_Nw.same rfl h n.1, va_AO.moved (by rw [h]; exact Vm.Alike.refl U.vm) n.2⟩
theorem NX2_call {U : State} {gg : JFrame} {mk : MethodId} {a : Array Value} (n : NX2 U) : NX2 (U.calling gg mk a) := NX2_same rfl n
theorem NX2_warm {s U : State} (hW : s.WarmedH U.vm) (n : NX2 s) : NX2 U := ⟨va_Nw.warmM hW n.1, va_AO.moved hW.alike n.2⟩
theorem i_KX4 {g : Gh} {s : State} (hK : va_K (gD g) vwCl (gT g) s) {cA : ClassId} (h : va_K (gD g) vwCl (gT g ++ [(cA, .object RX4)]) s) : g.2.2.2.2.1 = cA := by
  obtain ⟨_, _, -, -, -, a⟩ := (h.2 4 (cA, .object RX4) rfl).2
  obtain ⟨_, _, -, -, -, b⟩ := (hK.2 2 (g.2.2.2.2.1, .object "YearDeck$Rider") rfl).2
  exact Option.some.inj (b.symm.trans a)
theorem i_KX5 {g : Gh} {s : State} (hK : va_K (gD g) vwCl (gT g) s) {cA : ClassId} (h : va_K (gD g) vwCl (gT g ++ [(cA, .object RX5)]) s) : g.2.2.2.2.2 = cA := by
  obtain ⟨_, _, -, -, -, a⟩ := (h.2 4 (cA, .object RX5) rfl).2
  obtain ⟨_, _, -, -, -, b⟩ := (hK.2 3 (g.2.2.2.2.2, .object "YearDeck$Sheet") rfl).2
  exact Option.some.inj (b.symm.trans a)
theorem kl_X2_15 : Cond.classLink RX2 15 RX4 ∈ lw_g := lw_mem 67 (by decide +kernel) rfl
theorem kl_X6_9 : Cond.classLink RX6 9 RX2 ∈ lw_g := lw_mem 61 (by decide +kernel) rfl
theorem kl_X6_18 : Cond.classLink RX6 18 RX1 ∈ lw_g := lw_mem 123 (by decide +kernel) rfl
theorem kl_X6_25 : Cond.classLink RX6 25 RX5 ∈ lw_g := lw_mem 143 (by decide +kernel) rfl
theorem ib_X4 : Cond.instantiable RX4 5 ∈ lw_g := lw_mem 69 (by decide +kernel) rfl
theorem ib_X2 : Cond.instantiable RX2 6 ∈ lw_g := lw_mem 62 (by decide +kernel) rfl
theorem ib_X1 : Cond.instantiable RX1 4 ∈ lw_g := lw_mem 124 (by decide +kernel) rfl
theorem ib_X5 : Cond.instantiable RX5 3 ∈ lw_g := lw_mem 145 (by decide +kernel) rfl
theorem in9_X4 : Cond.initialized RX4 ∈ lw_g := lw_mem 44 (by decide +kernel) rfl
theorem in9_X2 : Cond.initialized RX2 ∈ lw_g := lw_mem 43 (by decide +kernel) rfl
theorem in9_X1 : Cond.initialized RX1 ∈ lw_g := lw_mem 45 (by decide +kernel) rfl
theorem in9_X5 : Cond.initialized RX5 ∈ lw_g := lw_mem 46 (by decide +kernel) rfl
theorem im9_X4 : Cond.instanceMethod yX4_init ∈ lw_g := lw_mem 71 (by decide +kernel) rfl
theorem im9_X2 : Cond.instanceMethod yX2_init ∈ lw_g := lw_mem 64 (by decide +kernel) rfl
theorem im9_X1 : Cond.instanceMethod yX1_init ∈ lw_g := lw_mem 126 (by decide +kernel) rfl
theorem im9_X5 : Cond.instanceMethod yX5_init ∈ lw_g := lw_mem 147 (by decide +kernel) rfl
theorem gi_X4 : GoodIn lw_g (wU yX4_init cX4_init 1 none) := wU_good (lw_mem 72 (by decide +kernel) rfl)
theorem gi_X2 : GoodIn lw_g (wU yX2_init cX2_init 2 none) := wU_good (lw_mem 65 (by decide +kernel) rfl)
theorem gi_X1 : GoodIn lw_g (wU yX1_init cX1_init 1 none) := wU_good (lw_mem 127 (by decide +kernel) rfl)
theorem gi_X5 : GoodIn lw_g (wU yX5_init cX5_init 1 none) := wU_good (lw_mem 148 (by decide +kernel) rfl)
set_option maxRecDepth 100000 in
set_option maxHeartbeats 4000000 in
theorem c_X2_init (l : Launch) (g : Gh) (h0 sz : Nat) : Met l yX2_init (wU yX2_init cX2_init 2 none) ({ frames := 2, cells := 7, slots := 33, locals := 80 }) (va_Pc [.ref h0] (fun U => U.heap.size = sz ∧ va_P (gD g) vwCl [(h0, .inr (1, [.null, .null, .null, .int 0, .int 0, .int 0]))] U.heap ∧ va_K (gD g) vwCl (gT g) U ∧ va_D (fun _ => True) [(h0, .inr (1, [.null, .null, .null, .int 0, .int 0, .int 0]))] ∧ NX2 U)) (va_Qv (fun u : Nat → Nat => u 0 = h0) (fun (u : Nat → Nat) t => va_P (gD g) vwCl ([((u 0), .inr (1, [.ref (u 1), .ref (u 2), .ref (u 3), .int (0), .int (0), .int (0)])), ((u 1), .inl (g.2.2.1, 5, .inl (fun _ => 0))), ((u 2), .inl (g.2.2.2.2.1, 4, .inr (.inr (.inr (.inr (va_up (va_up (va_up (va_up (fun _ => none) 0 (some (u 4))) 1 (some (u 5))) 2 (some (u 6))) 3 (some (u 7)))))))), ((u 3), .inl (g.2.2.1, 4, .inl (fun _ => 0))), ((u 4), .inr (2, [.int (0), .int (0), .int (0), .int (0), .int (0)])), ((u 5), .inr (2, [.int (0), .int (0), .int (0), .int (0), .int (0)])), ((u 6), .inr (2, [.int (0), .int (0), .int (0), .int (0), .int (0)])), ((u 7), .inr (2, [.int (0), .int (0), .int (0), .int (0), .int (0)]))]) t.heap ∧ va_K (gD g) vwCl (gT g) t ∧ va_D (va_A [(h0, .inr (1, [.null, .null, .null, .int 0, .int 0, .int 0]))] sz) ([((u 0), .inr (1, [.ref (u 1), .ref (u 2), .ref (u 3), .int (0), .int (0), .int (0)])), ((u 1), .inl (g.2.2.1, 5, .inl (fun _ => 0))), ((u 2), .inl (g.2.2.2.2.1, 4, .inr (.inr (.inr (.inr (va_up (va_up (va_up (va_up (fun _ => none) 0 (some (u 4))) 1 (some (u 5))) 2 (some (u 6))) 3 (some (u 7)))))))), ((u 3), .inl (g.2.2.1, 4, .inl (fun _ => 0))), ((u 4), .inr (2, [.int (0), .int (0), .int (0), .int (0), .int (0)])), ((u 5), .inr (2, [.int (0), .int (0), .int (0), .int (0), .int (0)])), ((u 6), .inr (2, [.int (0), .int (0), .int (0), .int (0), .int (0)])), ((u 7), .inr (2, [.int (0), .int (0), .int (0), .int (0), .int (0)]))])) (va_A [(h0, .inr (1, [.null, .null, .null, .int 0, .int 0, .int 0]))] sz)) 7 33 (va_A [(h0, .inr (1, [.null, .null, .null, .int 0, .int 0, .int 0]))] sz) := by
  refine Met.ofW (cc := cX2_init) (maxL := 2) (ret := none) (by decide) rfl ?_
  intro p e s m args below meth c s₁ B hml hv
  obtain ⟨rfl, hsz, hP, hK, hD0, hN⟩ := hv
  have hx := B.exec
  have hb := B.bytes
  have hr := B.returns
  have hts0 := atoms_spec (ws := wU yX2_init cX2_init 2 none) B.pre
  have hts : ∀ w ∈ lw_g, w.before #[Value.ref h0] s = true := fun w h => hts0 w (List.mem_cons_of_mem _ h)
  have hown : s.vm.findClass RX2 = some m.cls := findClass_of_methodNamed B.named
  have hlocks := B.notSynchronized
  have hin : meth.name = "<init>" := (name_of_methodNamed B.named B.method).1
  subst hsz
  have hD := hD0.self (sz := s.heap.size)
  generalize hAe : va_A [(h0, .inr (1, [.null, .null, .null, .int 0, .int 0, .int 0]))] s.heap.size = A at hD ⊢
  have hA : ∀ q : Nat, s.heap.size ≤ q → A q := fun q h => by rw [← hAe]; exact Or.inr h
  have hS : va_S A s.heap s.heap [] := va_S.rf
  have hl := lv_entry ([.ref h0]) (n := 2) (Nat.le_of_ble_eq_true rfl)
  rw [lg_entry_eq]
  generalize (lg_sl ([.ref h0]) ++ List.replicate (2 - (lg_sl ([.ref h0])).length) Slot.unset).toArray = ls at hl ⊢
  have hl : lv_has ls 2 [(0, .ref h0)] := hl
  refine lv_aload_n hx hb dX2_init_0 rfl (lv_at hl 0 rfl) ?_
  refine W.objInit hx hb hown (hts _ oi_X2) (hts _ oi_m) (hts _ oi_c) rfl (by rw [hml]; exact hl.1) rfl dX2_init_1 (Nat.le_of_ble_eq_true rfl) (Nat.le_of_ble_eq_true rfl) ?_
  refine W.eq (g2 := F0 m 4 ls []) rfl ?_
  refine lv_aload_n hx hb dX2_init_4 rfl (lv_at hl 0 rfl) ?_
  refine lv_iconst (v := 5) hx hb dX2_init_5 (by decide) ?_
  refine va_newa (atype := .int) (a0 := (5, .inl fun _ => 0)) hx hb (hts _ wa_int) rfl hK hP hD hS hA (fun _ => rfl) (by decide) (by decide) (Nat.le_of_ble_eq_true rfl) (Nat.le_of_ble_eq_true rfl) (Nat.le_of_ble_eq_true rfl) dX2_init_6 (fun q1 cA H hK1 hP hD hS => ?_)
  obtain rfl := i_Ki hK hK1
  have hP : va_P (gD g) vwCl [(h0, .inr (1, [.null, .null, .null, .int 0, .int 0, .int 0])), (q1, .inl (g.2.2.1, 5, .inl (fun _ => 0)))] H := hP
  have hD : va_D A [(h0, .inr (1, [.null, .null, .null, .int 0, .int 0, .int 0])), (q1, .inl (g.2.2.1, 5, .inl (fun _ => 0)))] := hD
  refine W.widen (k := 1) (n := 5) (Nat.le_of_ble_eq_true rfl) (Nat.le_of_ble_eq_true rfl) ?_
  refine va_putF (D := gD g) (ci := 1) (v := .ref q1) (ty := (.array .int)) (C := RX2) (T := TX2) (N := 6) hx hb hts in_X2 tyX2 tyX2_ok nmX2 hown hK hP hD hS 0 rfl rfl 0 (by decide) (hts _ fl_X2_9) (fun _ h9 => h9) rfl hin rfl (by decide +kernel) rfl rfl (Nat.le_of_ble_eq_true rfl) dX2_init_8 (fun H locs hP hD hS => ?_)
  have hP : va_P (gD g) vwCl [(h0, .inr (1, [.ref q1, .null, .null, .int 0, .int 0, .int 0])), (q1, .inl (g.2.2.1, 5, .inl (fun _ => 0)))] H := hP
  have hD : va_D A [(h0, .inr (1, [.ref q1, .null, .null, .int 0, .int 0, .int 0])), (q1, .inl (g.2.2.1, 5, .inl (fun _ => 0)))] := hD
  refine lv_aload_n hx hb dX2_init_11 rfl (lv_at hl 0 rfl) ?_
  refine lv_iconst (v := 4) hx hb dX2_init_12 (by decide) ?_
  refine va_newq (C := RX4) hx hb hown (hts _ kl_X2_15) hN.2 hK hP hD hS hA (N' := 4) (by decide) (by decide) (Nat.le_of_ble_eq_true rfl) (Nat.le_of_ble_eq_true rfl) (Nat.le_of_ble_eq_true rfl) dX2_init_13 (fun q2 cA H hK1 hP hD hS => ?_)
  obtain rfl := i_KX4 hK hK1
  have hP : va_P (gD g) vwCl [(h0, .inr (1, [.ref q1, .null, .null, .int 0, .int 0, .int 0])), (q1, .inl (g.2.2.1, 5, .inl (fun _ => 0))), (q2, .inl (g.2.2.2.2.1, 4, .inr (.inr (.inr (.inr (fun _ => none))))))] H := hP
  have hD : va_D A [(h0, .inr (1, [.ref q1, .null, .null, .int 0, .int 0, .int 0])), (q1, .inl (g.2.2.1, 5, .inl (fun _ => 0))), (q2, .inl (g.2.2.2.2.1, 4, .inr (.inr (.inr (.inr (fun _ => none))))))] := hD
  refine W.widen (k := 2) (n := 9) (Nat.le_of_ble_eq_true rfl) (Nat.le_of_ble_eq_true rfl) ?_
  refine va_putF (D := gD g) (ci := 1) (v := .ref q2) (ty := (.array (.object "YearDeck$Rider"))) (C := RX2) (T := TX2) (N := 6) hx hb hts in_X2 tyX2 tyX2_ok nmX2 hown hK hP hD hS 0 rfl rfl 1 (by decide) (hts _ fl_X2_17) (fun _ h9 => h9) rfl hin rfl (by decide +kernel) rfl rfl (Nat.le_of_ble_eq_true rfl) dX2_init_16 (fun H locs hP hD hS => ?_)
  have hP : va_P (gD g) vwCl [(h0, .inr (1, [.ref q1, .ref q2, .null, .int 0, .int 0, .int 0])), (q1, .inl (g.2.2.1, 5, .inl (fun _ => 0))), (q2, .inl (g.2.2.2.2.1, 4, .inr (.inr (.inr (.inr (fun _ => none))))))] H := hP
  have hD : va_D A [(h0, .inr (1, [.ref q1, .ref q2, .null, .int 0, .int 0, .int 0])), (q1, .inl (g.2.2.1, 5, .inl (fun _ => 0))), (q2, .inl (g.2.2.2.2.1, 4, .inr (.inr (.inr (.inr (fun _ => none))))))] := hD
  refine lv_aload_n hx hb dX2_init_19 rfl (lv_at hl 0 rfl) ?_
  refine lv_iconst (v := 4) hx hb dX2_init_20 (by decide) ?_
  refine va_newa (atype := .int) (a0 := (4, .inl fun _ => 0)) hx hb (hts _ wa_int) rfl hK hP hD hS hA (fun _ => rfl) (by decide) (by decide) (Nat.le_of_ble_eq_true rfl) (Nat.le_of_ble_eq_true rfl) (Nat.le_of_ble_eq_true rfl) dX2_init_21 (fun q3 cA H hK1 hP hD hS => ?_)
  obtain rfl := i_Ki hK hK1
  have hP : va_P (gD g) vwCl [(h0, .inr (1, [.ref q1, .ref q2, .null, .int 0, .int 0, .int 0])), (q1, .inl (g.2.2.1, 5, .inl (fun _ => 0))), (q2, .inl (g.2.2.2.2.1, 4, .inr (.inr (.inr (.inr (fun _ => none)))))), (q3, .inl (g.2.2.1, 4, .inl (fun _ => 0)))] H := hP
  have hD : va_D A [(h0, .inr (1, [.ref q1, .ref q2, .null, .int 0, .int 0, .int 0])), (q1, .inl (g.2.2.1, 5, .inl (fun _ => 0))), (q2, .inl (g.2.2.2.2.1, 4, .inr (.inr (.inr (.inr (fun _ => none)))))), (q3, .inl (g.2.2.1, 4, .inl (fun _ => 0)))] := hD
  refine W.widen (k := 3) (n := 13) (Nat.le_of_ble_eq_true rfl) (Nat.le_of_ble_eq_true rfl) ?_
  refine va_putF (D := gD g) (ci := 1) (v := .ref q3) (ty := (.array .int)) (C := RX2) (T := TX2) (N := 6) hx hb hts in_X2 tyX2 tyX2_ok nmX2 hown hK hP hD hS 0 rfl rfl 2 (by decide) (hts _ fl_X2_21) (fun _ h9 => h9) rfl hin rfl (by decide +kernel) rfl rfl (Nat.le_of_ble_eq_true rfl) dX2_init_23 (fun H locs hP hD hS => ?_)
  have hP : va_P (gD g) vwCl [(h0, .inr (1, [.ref q1, .ref q2, .ref q3, .int 0, .int 0, .int 0])), (q1, .inl (g.2.2.1, 5, .inl (fun _ => 0))), (q2, .inl (g.2.2.2.2.1, 4, .inr (.inr (.inr (.inr (fun _ => none)))))), (q3, .inl (g.2.2.1, 4, .inl (fun _ => 0)))] H := hP
  have hD : va_D A [(h0, .inr (1, [.ref q1, .ref q2, .ref q3, .int 0, .int 0, .int 0])), (q1, .inl (g.2.2.1, 5, .inl (fun _ => 0))), (q2, .inl (g.2.2.2.2.1, 4, .inr (.inr (.inr (.inr (fun _ => none)))))), (q3, .inl (g.2.2.1, 4, .inl (fun _ => 0)))] := hD
  refine lv_aload_n hx hb dX2_init_26 rfl (lv_at hl 0 rfl) ?_
  refine lv_iconst (v := 0) hx hb dX2_init_27 (by decide) ?_
  refine va_put (D := gD g) (ci := 1) (v := .int (0)) (ty := .int) (C := RX2) (T := TX2) (N := 6) hx hb hts in_X2 tyX2 tyX2_ok nmX2 hown hK hP hD hS 0 rfl rfl 3 (by decide) (hts _ fl_X2_24) (fun _ h9 => h9) rfl (by decide +kernel) rfl rfl (Nat.le_of_ble_eq_true rfl) dX2_init_28 (fun H locs hP hD hS => ?_)
  have hP : va_P (gD g) vwCl [(h0, .inr (1, [.ref q1, .ref q2, .ref q3, .int (0), .int 0, .int 0])), (q1, .inl (g.2.2.1, 5, .inl (fun _ => 0))), (q2, .inl (g.2.2.2.2.1, 4, .inr (.inr (.inr (.inr (fun _ => none)))))), (q3, .inl (g.2.2.1, 4, .inl (fun _ => 0)))] H := hP
  have hD : va_D A [(h0, .inr (1, [.ref q1, .ref q2, .ref q3, .int (0), .int 0, .int 0])), (q1, .inl (g.2.2.1, 5, .inl (fun _ => 0))), (q2, .inl (g.2.2.2.2.1, 4, .inr (.inr (.inr (.inr (fun _ => none)))))), (q3, .inl (g.2.2.1, 4, .inl (fun _ => 0)))] := hD
  refine lv_aload_n hx hb dX2_init_31 rfl (lv_at hl 0 rfl) ?_
  refine lv_iconst (v := 0) hx hb dX2_init_32 (by decide) ?_
  refine va_put (D := gD g) (ci := 1) (v := .int (0)) (ty := .int) (C := RX2) (T := TX2) (N := 6) hx hb hts in_X2 tyX2 tyX2_ok nmX2 hown hK hP hD hS 0 rfl rfl 4 (by decide) (hts _ fl_X2_28) (fun _ h9 => h9) rfl (by decide +kernel) rfl rfl (Nat.le_of_ble_eq_true rfl) dX2_init_33 (fun H locs hP hD hS => ?_)
  have hP : va_P (gD g) vwCl [(h0, .inr (1, [.ref q1, .ref q2, .ref q3, .int (0), .int (0), .int 0])), (q1, .inl (g.2.2.1, 5, .inl (fun _ => 0))), (q2, .inl (g.2.2.2.2.1, 4, .inr (.inr (.inr (.inr (fun _ => none)))))), (q3, .inl (g.2.2.1, 4, .inl (fun _ => 0)))] H := hP
  have hD : va_D A [(h0, .inr (1, [.ref q1, .ref q2, .ref q3, .int (0), .int (0), .int 0])), (q1, .inl (g.2.2.1, 5, .inl (fun _ => 0))), (q2, .inl (g.2.2.2.2.1, 4, .inr (.inr (.inr (.inr (fun _ => none)))))), (q3, .inl (g.2.2.1, 4, .inl (fun _ => 0)))] := hD
  refine lv_aload_n hx hb dX2_init_36 rfl (lv_at hl 0 rfl) ?_
  refine lv_iconst (v := 0) hx hb dX2_init_37 (by decide) ?_
  refine va_put (D := gD g) (ci := 1) (v := .int (0)) (ty := .int) (C := RX2) (T := TX2) (N := 6) hx hb hts in_X2 tyX2 tyX2_ok nmX2 hown hK hP hD hS 0 rfl rfl 5 (by decide) (hts _ fl_X2_31) (fun _ h9 => h9) rfl (by decide +kernel) rfl rfl (Nat.le_of_ble_eq_true rfl) dX2_init_38 (fun H locs hP hD hS => ?_)
  have hP : va_P (gD g) vwCl [(h0, .inr (1, [.ref q1, .ref q2, .ref q3, .int (0), .int (0), .int (0)])), (q1, .inl (g.2.2.1, 5, .inl (fun _ => 0))), (q2, .inl (g.2.2.2.2.1, 4, .inr (.inr (.inr (.inr (fun _ => none)))))), (q3, .inl (g.2.2.1, 4, .inl (fun _ => 0)))] H := hP
  have hD : va_D A [(h0, .inr (1, [.ref q1, .ref q2, .ref q3, .int (0), .int (0), .int (0)])), (q1, .inl (g.2.2.1, 5, .inl (fun _ => 0))), (q2, .inl (g.2.2.2.2.1, 4, .inr (.inr (.inr (.inr (fun _ => none)))))), (q3, .inl (g.2.2.1, 4, .inl (fun _ => 0)))] := hD
  refine lv_iconst (v := 0) hx hb dX2_init_41 (by decide) ?_
  refine lv_istore_n (lv' := [(1, .int (0)), (0, .ref h0)]) hx hb dX2_init_42 rfl hl (by decide) rfl (fun ls hl => ?_)
  refine lv_iload_n hx hb dX2_init_43 rfl (lv_at hl 0 rfl) ?_
  refine lv_iconst (v := 4) hx hb dX2_init_44 (by decide) ?_
  refine lv_icmp_ge (tgt := 67) hx hb dX2_init_45 (by decide) (fun hc => absurd hc (by decide)) (fun hc => ?_)
  refine lv_aload_n hx hb dX2_init_48 rfl (lv_at hl 1 rfl) ?_
  refine va_get (D := gD g) (ci := 1) (v := .ref q2) (C := RX2) (T := TX2) (N := 6) hx hb hts in_X2 hown hK hP 0 rfl rfl 1 (by decide) (hts _ fl_X2_17) (fun _ h9 => h9) rfl dX2_init_49 ?_
  refine lv_iload_n hx hb dX2_init_52 rfl (lv_at hl 0 rfl) ?_
  refine va_new (ci := 2) (fs := [.int 0, .int 0, .int 0, .int 0, .int 0]) (C := RX4) (T := TX4) (N := 5) hx hb hts in_X4 tyX4 tyX4_ok hown (hts _ kl_X2_15) (hts _ ib_X4) (hts _ in9_X4) hK hP hD hS hA rfl (fun j hj => by rcases (show j = 0 ∨ j = 1 ∨ j = 2 ∨ j = 3 ∨ j = 4 by omega) with rfl | rfl | rfl | rfl | rfl <;> rfl) (Nat.le_of_ble_eq_true rfl) (Nat.le_of_ble_eq_true rfl) dX2_init_53 (fun q4 H hP hD hS => ?_)
  have hP : va_P (gD g) vwCl [(h0, .inr (1, [.ref q1, .ref q2, .ref q3, .int (0), .int (0), .int (0)])), (q1, .inl (g.2.2.1, 5, .inl (fun _ => 0))), (q2, .inl (g.2.2.2.2.1, 4, .inr (.inr (.inr (.inr (fun _ => none)))))), (q3, .inl (g.2.2.1, 4, .inl (fun _ => 0))), (q4, .inr (2, [.int 0, .int 0, .int 0, .int 0, .int 0]))] H := hP
  have hD : va_D A [(h0, .inr (1, [.ref q1, .ref q2, .ref q3, .int (0), .int (0), .int (0)])), (q1, .inl (g.2.2.1, 5, .inl (fun _ => 0))), (q2, .inl (g.2.2.2.2.1, 4, .inr (.inr (.inr (.inr (fun _ => none)))))), (q3, .inl (g.2.2.1, 4, .inl (fun _ => 0))), (q4, .inr (2, [.int 0, .int 0, .int 0, .int 0, .int 0]))] := hD
  refine W.widen (k := 4) (n := 18) (Nat.le_of_ble_eq_true rfl) (Nat.le_of_ble_eq_true rfl) ?_
  refine lv_dup hx hb dX2_init_56 rfl ?_
  have hPc := hP.sub (ws' := [(q4, .inr (2, [.int 0, .int 0, .int 0, .int 0, .int 0]))]) [4] rfl
  have hDc := hD.sub (ws' := [(q4, .inr (2, [.int 0, .int 0, .int 0, .int 0, .int 0]))]) [4] (by decide) rfl
  have hFc := va_free (wc := [(q4, .inr (2, [.int 0, .int 0, .int 0, .int 0, .int 0]))]) hD hS hA [4] rfl
  refine va_callv (va_runIN (As := []) (rest := [.ref q4, .int (0), .ref q2]) ⟨hx, hb, hml, hown, hts⟩ (c_X4_init l g q4 H.size) (⟨va_cnB 0 hts gi_X4 rfl rfl rfl hN.1 (hts _ in9_X4) ⟨by decide, by decide, by decide +kernel⟩ ⟨Nat.le_of_ble_eq_true rfl, Nat.le_of_ble_eq_true rfl⟩, rfl, hts _ im9_X4⟩) ⟨fun a U gg mk q => by obtain ⟨q0, q1, qP, qK, qD⟩ := q; exact ⟨q0, q1, qP, va_K.moved (u := U) (U := U.calling gg mk a) (Vm.Alike.refl U.vm) qK, qD⟩, fun U hU hW => ⟨rfl, by rw [hU], by rw [hU]; exact hPc, va_K.moved hW.alike hK, hDc.weaken (fun _ _ _ _ => trivial)⟩⟩ rfl rfl hl.1 rfl (lv_room (Nat.le_of_ble_eq_true rfl)) dX2_init_57 ⟨Nat.le_of_ble_eq_true rfl, Nat.le_of_ble_eq_true rfl⟩) hS (fun q _ h => hFc q h) hFc (fun u1 t H1 locs ht hvm hw hB hz1 hk1 hS => ?_)
  obtain ⟨hP1, hK1, hD1⟩ := hB
  rw [ht] at hP1
  clear hK1
  have hw : u1 0 = q4 := hw
  obtain ⟨hP, hD⟩ := va_join (wr := [(h0, .inr (1, [.ref q1, .ref q2, .ref q3, .int (0), .int (0), .int (0)])), (q1, .inl (g.2.2.1, 5, .inl (fun _ => 0))), (q2, .inl (g.2.2.2.2.1, 4, .inr (.inr (.inr (.inr (fun _ => none)))))), (q3, .inl (g.2.2.1, 4, .inl (fun _ => 0)))]) (w1 := [((u1 0), .inr (2, [.int (0), .int (0), .int (0), .int (0), .int (0)]))]) hP hD [4] [0, 1, 2, 3] rfl rfl (by decide) (by decide) hk1 hFc hP1 hD1
  generalize H1 = H at hP hS ⊢
  clear hP1 hD1 hPc hDc hFc hk1 hz1
  have hP : va_P (gD g) vwCl [(h0, .inr (1, [.ref q1, .ref q2, .ref q3, .int (0), .int (0), .int (0)])), (q1, .inl (g.2.2.1, 5, .inl (fun _ => 0))), (q2, .inl (g.2.2.2.2.1, 4, .inr (.inr (.inr (.inr (fun _ => none)))))), (q3, .inl (g.2.2.1, 4, .inl (fun _ => 0))), ((u1 0), .inr (2, [.int (0), .int (0), .int (0), .int (0), .int (0)]))] H := hP
  have hD : va_D A [(h0, .inr (1, [.ref q1, .ref q2, .ref q3, .int (0), .int (0), .int (0)])), (q1, .inl (g.2.2.1, 5, .inl (fun _ => 0))), (q2, .inl (g.2.2.2.2.1, 4, .inr (.inr (.inr (.inr (fun _ => none)))))), (q3, .inl (g.2.2.1, 4, .inl (fun _ => 0))), ((u1 0), .inr (2, [.int (0), .int (0), .int (0), .int (0), .int (0)]))] := hD
  rw [hw] at hP hD
  have hP : va_P (gD g) vwCl [(h0, .inr (1, [.ref q1, .ref q2, .ref q3, .int (0), .int (0), .int (0)])), (q1, .inl (g.2.2.1, 5, .inl (fun _ => 0))), (q2, .inl (g.2.2.2.2.1, 4, .inr (.inr (.inr (.inr (fun _ => none)))))), (q3, .inl (g.2.2.1, 4, .inl (fun _ => 0))), (q4, .inr (2, [.int (0), .int (0), .int (0), .int (0), .int (0)]))] H := hP
  have hD : va_D A [(h0, .inr (1, [.ref q1, .ref q2, .ref q3, .int (0), .int (0), .int (0)])), (q1, .inl (g.2.2.1, 5, .inl (fun _ => 0))), (q2, .inl (g.2.2.2.2.1, 4, .inr (.inr (.inr (.inr (fun _ => none)))))), (q3, .inl (g.2.2.1, 4, .inl (fun _ => 0))), (q4, .inr (2, [.int (0), .int (0), .int (0), .int (0), .int (0)]))] := hD
  refine W.widen (k := 4) (n := 18) (Nat.le_of_ble_eq_true rfl) (Nat.le_of_ble_eq_true rfl) ?_
  refine va_astq (r := (RX4, TX4, 5)) hx hb hK hP hD hS 2 2 4 2 rfl rfl rfl rfl (inb_in (by decide)) dX2_init_60 (fun H locs hP hD hS => ?_)
  have hP : va_P (gD g) vwCl [(h0, .inr (1, [.ref q1, .ref q2, .ref q3, .int (0), .int (0), .int (0)])), (q1, .inl (g.2.2.1, 5, .inl (fun _ => 0))), (q2, .inl (g.2.2.2.2.1, 4, .inr (.inr (.inr (.inr (va_up (fun _ => none) 0 (some q4))))))), (q3, .inl (g.2.2.1, 4, .inl (fun _ => 0))), (q4, .inr (2, [.int (0), .int (0), .int (0), .int (0), .int (0)]))] H := hP
  have hD : va_D A [(h0, .inr (1, [.ref q1, .ref q2, .ref q3, .int (0), .int (0), .int (0)])), (q1, .inl (g.2.2.1, 5, .inl (fun _ => 0))), (q2, .inl (g.2.2.2.2.1, 4, .inr (.inr (.inr (.inr (va_up (fun _ => none) 0 (some q4))))))), (q3, .inl (g.2.2.1, 4, .inl (fun _ => 0))), (q4, .inr (2, [.int (0), .int (0), .int (0), .int (0), .int (0)]))] := hD
  refine lv_iinc (v := 1) (lv' := [(1, .int (1)), (0, .ref h0)]) hx hb dX2_init_61 hl (k := 0) rfl rfl (by decide) rfl (fun ls hl => ?_)
  refine lv_goto (tgt := 43) hx hb dX2_init_64 (by decide) ?_
  refine lv_iload_n hx hb dX2_init_43 rfl (lv_at hl 0 rfl) ?_
  refine lv_iconst (v := 4) hx hb dX2_init_44 (by decide) ?_
  refine lv_icmp_ge (tgt := 67) hx hb dX2_init_45 (by decide) (fun hc => absurd hc (by decide)) (fun hc => ?_)
  refine lv_aload_n hx hb dX2_init_48 rfl (lv_at hl 1 rfl) ?_
  refine va_get (D := gD g) (ci := 1) (v := .ref q2) (C := RX2) (T := TX2) (N := 6) hx hb hts in_X2 hown hK hP 0 rfl rfl 1 (by decide) (hts _ fl_X2_17) (fun _ h9 => h9) rfl dX2_init_49 ?_
  refine lv_iload_n hx hb dX2_init_52 rfl (lv_at hl 0 rfl) ?_
  refine va_new (ci := 2) (fs := [.int 0, .int 0, .int 0, .int 0, .int 0]) (C := RX4) (T := TX4) (N := 5) hx hb hts in_X4 tyX4 tyX4_ok hown (hts _ kl_X2_15) (hts _ ib_X4) (hts _ in9_X4) hK hP hD hS hA rfl (fun j hj => by rcases (show j = 0 ∨ j = 1 ∨ j = 2 ∨ j = 3 ∨ j = 4 by omega) with rfl | rfl | rfl | rfl | rfl <;> rfl) (Nat.le_of_ble_eq_true rfl) (Nat.le_of_ble_eq_true rfl) dX2_init_53 (fun q5 H hP hD hS => ?_)
  have hP : va_P (gD g) vwCl [(h0, .inr (1, [.ref q1, .ref q2, .ref q3, .int (0), .int (0), .int (0)])), (q1, .inl (g.2.2.1, 5, .inl (fun _ => 0))), (q2, .inl (g.2.2.2.2.1, 4, .inr (.inr (.inr (.inr (va_up (fun _ => none) 0 (some q4))))))), (q3, .inl (g.2.2.1, 4, .inl (fun _ => 0))), (q4, .inr (2, [.int (0), .int (0), .int (0), .int (0), .int (0)])), (q5, .inr (2, [.int 0, .int 0, .int 0, .int 0, .int 0]))] H := hP
  have hD : va_D A [(h0, .inr (1, [.ref q1, .ref q2, .ref q3, .int (0), .int (0), .int (0)])), (q1, .inl (g.2.2.1, 5, .inl (fun _ => 0))), (q2, .inl (g.2.2.2.2.1, 4, .inr (.inr (.inr (.inr (va_up (fun _ => none) 0 (some q4))))))), (q3, .inl (g.2.2.1, 4, .inl (fun _ => 0))), (q4, .inr (2, [.int (0), .int (0), .int (0), .int (0), .int (0)])), (q5, .inr (2, [.int 0, .int 0, .int 0, .int 0, .int 0]))] := hD
  refine W.widen (k := 5) (n := 23) (Nat.le_of_ble_eq_true rfl) (Nat.le_of_ble_eq_true rfl) ?_
  refine lv_dup hx hb dX2_init_56 rfl ?_
  have hPc := hP.sub (ws' := [(q5, .inr (2, [.int 0, .int 0, .int 0, .int 0, .int 0]))]) [5] rfl
  have hDc := hD.sub (ws' := [(q5, .inr (2, [.int 0, .int 0, .int 0, .int 0, .int 0]))]) [5] (by decide) rfl
  have hFc := va_free (wc := [(q5, .inr (2, [.int 0, .int 0, .int 0, .int 0, .int 0]))]) hD hS hA [5] rfl
  refine va_callv (va_runIN (As := []) (rest := [.ref q5, .int (1), .ref q2]) ⟨hx, hb, hml, hown, hts⟩ (c_X4_init l g q5 H.size) (⟨va_cnB 0 hts gi_X4 rfl rfl rfl hN.1 (hts _ in9_X4) ⟨by decide, by decide, by decide +kernel⟩ ⟨Nat.le_of_ble_eq_true rfl, Nat.le_of_ble_eq_true rfl⟩, rfl, hts _ im9_X4⟩) ⟨fun a U gg mk q => by obtain ⟨q0, q1, qP, qK, qD⟩ := q; exact ⟨q0, q1, qP, va_K.moved (u := U) (U := U.calling gg mk a) (Vm.Alike.refl U.vm) qK, qD⟩, fun U hU hW => ⟨rfl, by rw [hU], by rw [hU]; exact hPc, va_K.moved hW.alike hK, hDc.weaken (fun _ _ _ _ => trivial)⟩⟩ rfl rfl hl.1 rfl (lv_room (Nat.le_of_ble_eq_true rfl)) dX2_init_57 ⟨Nat.le_of_ble_eq_true rfl, Nat.le_of_ble_eq_true rfl⟩) hS (fun q _ h => hFc q h) hFc (fun u2 t H1 locs ht hvm hw hB hz1 hk1 hS => ?_)
  obtain ⟨hP1, hK1, hD1⟩ := hB
  rw [ht] at hP1
  clear hK1
  have hw : u2 0 = q5 := hw
  obtain ⟨hP, hD⟩ := va_join (wr := [(h0, .inr (1, [.ref q1, .ref q2, .ref q3, .int (0), .int (0), .int (0)])), (q1, .inl (g.2.2.1, 5, .inl (fun _ => 0))), (q2, .inl (g.2.2.2.2.1, 4, .inr (.inr (.inr (.inr (va_up (fun _ => none) 0 (some q4))))))), (q3, .inl (g.2.2.1, 4, .inl (fun _ => 0))), (q4, .inr (2, [.int (0), .int (0), .int (0), .int (0), .int (0)]))]) (w1 := [((u2 0), .inr (2, [.int (0), .int (0), .int (0), .int (0), .int (0)]))]) hP hD [5] [0, 1, 2, 3, 4] rfl rfl (by decide) (by decide) hk1 hFc hP1 hD1
  generalize H1 = H at hP hS ⊢
  clear hP1 hD1 hPc hDc hFc hk1 hz1
  have hP : va_P (gD g) vwCl [(h0, .inr (1, [.ref q1, .ref q2, .ref q3, .int (0), .int (0), .int (0)])), (q1, .inl (g.2.2.1, 5, .inl (fun _ => 0))), (q2, .inl (g.2.2.2.2.1, 4, .inr (.inr (.inr (.inr (va_up (fun _ => none) 0 (some q4))))))), (q3, .inl (g.2.2.1, 4, .inl (fun _ => 0))), (q4, .inr (2, [.int (0), .int (0), .int (0), .int (0), .int (0)])), ((u2 0), .inr (2, [.int (0), .int (0), .int (0), .int (0), .int (0)]))] H := hP
  have hD : va_D A [(h0, .inr (1, [.ref q1, .ref q2, .ref q3, .int (0), .int (0), .int (0)])), (q1, .inl (g.2.2.1, 5, .inl (fun _ => 0))), (q2, .inl (g.2.2.2.2.1, 4, .inr (.inr (.inr (.inr (va_up (fun _ => none) 0 (some q4))))))), (q3, .inl (g.2.2.1, 4, .inl (fun _ => 0))), (q4, .inr (2, [.int (0), .int (0), .int (0), .int (0), .int (0)])), ((u2 0), .inr (2, [.int (0), .int (0), .int (0), .int (0), .int (0)]))] := hD
  rw [hw] at hP hD
  have hP : va_P (gD g) vwCl [(h0, .inr (1, [.ref q1, .ref q2, .ref q3, .int (0), .int (0), .int (0)])), (q1, .inl (g.2.2.1, 5, .inl (fun _ => 0))), (q2, .inl (g.2.2.2.2.1, 4, .inr (.inr (.inr (.inr (va_up (fun _ => none) 0 (some q4))))))), (q3, .inl (g.2.2.1, 4, .inl (fun _ => 0))), (q4, .inr (2, [.int (0), .int (0), .int (0), .int (0), .int (0)])), (q5, .inr (2, [.int (0), .int (0), .int (0), .int (0), .int (0)]))] H := hP
  have hD : va_D A [(h0, .inr (1, [.ref q1, .ref q2, .ref q3, .int (0), .int (0), .int (0)])), (q1, .inl (g.2.2.1, 5, .inl (fun _ => 0))), (q2, .inl (g.2.2.2.2.1, 4, .inr (.inr (.inr (.inr (va_up (fun _ => none) 0 (some q4))))))), (q3, .inl (g.2.2.1, 4, .inl (fun _ => 0))), (q4, .inr (2, [.int (0), .int (0), .int (0), .int (0), .int (0)])), (q5, .inr (2, [.int (0), .int (0), .int (0), .int (0), .int (0)]))] := hD
  refine W.widen (k := 5) (n := 23) (Nat.le_of_ble_eq_true rfl) (Nat.le_of_ble_eq_true rfl) ?_
  refine va_astq (r := (RX4, TX4, 5)) hx hb hK hP hD hS 2 2 5 2 rfl rfl rfl rfl (inb_in (by decide)) dX2_init_60 (fun H locs hP hD hS => ?_)
  have hP : va_P (gD g) vwCl [(h0, .inr (1, [.ref q1, .ref q2, .ref q3, .int (0), .int (0), .int (0)])), (q1, .inl (g.2.2.1, 5, .inl (fun _ => 0))), (q2, .inl (g.2.2.2.2.1, 4, .inr (.inr (.inr (.inr (va_up (va_up (fun _ => none) 0 (some q4)) 1 (some q5))))))), (q3, .inl (g.2.2.1, 4, .inl (fun _ => 0))), (q4, .inr (2, [.int (0), .int (0), .int (0), .int (0), .int (0)])), (q5, .inr (2, [.int (0), .int (0), .int (0), .int (0), .int (0)]))] H := hP
  have hD : va_D A [(h0, .inr (1, [.ref q1, .ref q2, .ref q3, .int (0), .int (0), .int (0)])), (q1, .inl (g.2.2.1, 5, .inl (fun _ => 0))), (q2, .inl (g.2.2.2.2.1, 4, .inr (.inr (.inr (.inr (va_up (va_up (fun _ => none) 0 (some q4)) 1 (some q5))))))), (q3, .inl (g.2.2.1, 4, .inl (fun _ => 0))), (q4, .inr (2, [.int (0), .int (0), .int (0), .int (0), .int (0)])), (q5, .inr (2, [.int (0), .int (0), .int (0), .int (0), .int (0)]))] := hD
  refine lv_iinc (v := 2) (lv' := [(1, .int (2)), (0, .ref h0)]) hx hb dX2_init_61 hl (k := 0) rfl rfl (by decide) rfl (fun ls hl => ?_)
  refine lv_goto (tgt := 43) hx hb dX2_init_64 (by decide) ?_
  refine lv_iload_n hx hb dX2_init_43 rfl (lv_at hl 0 rfl) ?_
  refine lv_iconst (v := 4) hx hb dX2_init_44 (by decide) ?_
  refine lv_icmp_ge (tgt := 67) hx hb dX2_init_45 (by decide) (fun hc => absurd hc (by decide)) (fun hc => ?_)
  refine lv_aload_n hx hb dX2_init_48 rfl (lv_at hl 1 rfl) ?_
  refine va_get (D := gD g) (ci := 1) (v := .ref q2) (C := RX2) (T := TX2) (N := 6) hx hb hts in_X2 hown hK hP 0 rfl rfl 1 (by decide) (hts _ fl_X2_17) (fun _ h9 => h9) rfl dX2_init_49 ?_
  refine lv_iload_n hx hb dX2_init_52 rfl (lv_at hl 0 rfl) ?_
  refine va_new (ci := 2) (fs := [.int 0, .int 0, .int 0, .int 0, .int 0]) (C := RX4) (T := TX4) (N := 5) hx hb hts in_X4 tyX4 tyX4_ok hown (hts _ kl_X2_15) (hts _ ib_X4) (hts _ in9_X4) hK hP hD hS hA rfl (fun j hj => by rcases (show j = 0 ∨ j = 1 ∨ j = 2 ∨ j = 3 ∨ j = 4 by omega) with rfl | rfl | rfl | rfl | rfl <;> rfl) (Nat.le_of_ble_eq_true rfl) (Nat.le_of_ble_eq_true rfl) dX2_init_53 (fun q6 H hP hD hS => ?_)
  have hP : va_P (gD g) vwCl [(h0, .inr (1, [.ref q1, .ref q2, .ref q3, .int (0), .int (0), .int (0)])), (q1, .inl (g.2.2.1, 5, .inl (fun _ => 0))), (q2, .inl (g.2.2.2.2.1, 4, .inr (.inr (.inr (.inr (va_up (va_up (fun _ => none) 0 (some q4)) 1 (some q5))))))), (q3, .inl (g.2.2.1, 4, .inl (fun _ => 0))), (q4, .inr (2, [.int (0), .int (0), .int (0), .int (0), .int (0)])), (q5, .inr (2, [.int (0), .int (0), .int (0), .int (0), .int (0)])), (q6, .inr (2, [.int 0, .int 0, .int 0, .int 0, .int 0]))] H := hP
  have hD : va_D A [(h0, .inr (1, [.ref q1, .ref q2, .ref q3, .int (0), .int (0), .int (0)])), (q1, .inl (g.2.2.1, 5, .inl (fun _ => 0))), (q2, .inl (g.2.2.2.2.1, 4, .inr (.inr (.inr (.inr (va_up (va_up (fun _ => none) 0 (some q4)) 1 (some q5))))))), (q3, .inl (g.2.2.1, 4, .inl (fun _ => 0))), (q4, .inr (2, [.int (0), .int (0), .int (0), .int (0), .int (0)])), (q5, .inr (2, [.int (0), .int (0), .int (0), .int (0), .int (0)])), (q6, .inr (2, [.int 0, .int 0, .int 0, .int 0, .int 0]))] := hD
  refine W.widen (k := 6) (n := 28) (Nat.le_of_ble_eq_true rfl) (Nat.le_of_ble_eq_true rfl) ?_
  refine lv_dup hx hb dX2_init_56 rfl ?_
  have hPc := hP.sub (ws' := [(q6, .inr (2, [.int 0, .int 0, .int 0, .int 0, .int 0]))]) [6] rfl
  have hDc := hD.sub (ws' := [(q6, .inr (2, [.int 0, .int 0, .int 0, .int 0, .int 0]))]) [6] (by decide) rfl
  have hFc := va_free (wc := [(q6, .inr (2, [.int 0, .int 0, .int 0, .int 0, .int 0]))]) hD hS hA [6] rfl
  refine va_callv (va_runIN (As := []) (rest := [.ref q6, .int (2), .ref q2]) ⟨hx, hb, hml, hown, hts⟩ (c_X4_init l g q6 H.size) (⟨va_cnB 0 hts gi_X4 rfl rfl rfl hN.1 (hts _ in9_X4) ⟨by decide, by decide, by decide +kernel⟩ ⟨Nat.le_of_ble_eq_true rfl, Nat.le_of_ble_eq_true rfl⟩, rfl, hts _ im9_X4⟩) ⟨fun a U gg mk q => by obtain ⟨q0, q1, qP, qK, qD⟩ := q; exact ⟨q0, q1, qP, va_K.moved (u := U) (U := U.calling gg mk a) (Vm.Alike.refl U.vm) qK, qD⟩, fun U hU hW => ⟨rfl, by rw [hU], by rw [hU]; exact hPc, va_K.moved hW.alike hK, hDc.weaken (fun _ _ _ _ => trivial)⟩⟩ rfl rfl hl.1 rfl (lv_room (Nat.le_of_ble_eq_true rfl)) dX2_init_57 ⟨Nat.le_of_ble_eq_true rfl, Nat.le_of_ble_eq_true rfl⟩) hS (fun q _ h => hFc q h) hFc (fun u3 t H1 locs ht hvm hw hB hz1 hk1 hS => ?_)
  obtain ⟨hP1, hK1, hD1⟩ := hB
  rw [ht] at hP1
  clear hK1
  have hw : u3 0 = q6 := hw
  obtain ⟨hP, hD⟩ := va_join (wr := [(h0, .inr (1, [.ref q1, .ref q2, .ref q3, .int (0), .int (0), .int (0)])), (q1, .inl (g.2.2.1, 5, .inl (fun _ => 0))), (q2, .inl (g.2.2.2.2.1, 4, .inr (.inr (.inr (.inr (va_up (va_up (fun _ => none) 0 (some q4)) 1 (some q5))))))), (q3, .inl (g.2.2.1, 4, .inl (fun _ => 0))), (q4, .inr (2, [.int (0), .int (0), .int (0), .int (0), .int (0)])), (q5, .inr (2, [.int (0), .int (0), .int (0), .int (0), .int (0)]))]) (w1 := [((u3 0), .inr (2, [.int (0), .int (0), .int (0), .int (0), .int (0)]))]) hP hD [6] [0, 1, 2, 3, 4, 5] rfl rfl (by decide) (by decide) hk1 hFc hP1 hD1
  generalize H1 = H at hP hS ⊢
  clear hP1 hD1 hPc hDc hFc hk1 hz1
  have hP : va_P (gD g) vwCl [(h0, .inr (1, [.ref q1, .ref q2, .ref q3, .int (0), .int (0), .int (0)])), (q1, .inl (g.2.2.1, 5, .inl (fun _ => 0))), (q2, .inl (g.2.2.2.2.1, 4, .inr (.inr (.inr (.inr (va_up (va_up (fun _ => none) 0 (some q4)) 1 (some q5))))))), (q3, .inl (g.2.2.1, 4, .inl (fun _ => 0))), (q4, .inr (2, [.int (0), .int (0), .int (0), .int (0), .int (0)])), (q5, .inr (2, [.int (0), .int (0), .int (0), .int (0), .int (0)])), ((u3 0), .inr (2, [.int (0), .int (0), .int (0), .int (0), .int (0)]))] H := hP
  have hD : va_D A [(h0, .inr (1, [.ref q1, .ref q2, .ref q3, .int (0), .int (0), .int (0)])), (q1, .inl (g.2.2.1, 5, .inl (fun _ => 0))), (q2, .inl (g.2.2.2.2.1, 4, .inr (.inr (.inr (.inr (va_up (va_up (fun _ => none) 0 (some q4)) 1 (some q5))))))), (q3, .inl (g.2.2.1, 4, .inl (fun _ => 0))), (q4, .inr (2, [.int (0), .int (0), .int (0), .int (0), .int (0)])), (q5, .inr (2, [.int (0), .int (0), .int (0), .int (0), .int (0)])), ((u3 0), .inr (2, [.int (0), .int (0), .int (0), .int (0), .int (0)]))] := hD
  rw [hw] at hP hD
  have hP : va_P (gD g) vwCl [(h0, .inr (1, [.ref q1, .ref q2, .ref q3, .int (0), .int (0), .int (0)])), (q1, .inl (g.2.2.1, 5, .inl (fun _ => 0))), (q2, .inl (g.2.2.2.2.1, 4, .inr (.inr (.inr (.inr (va_up (va_up (fun _ => none) 0 (some q4)) 1 (some q5))))))), (q3, .inl (g.2.2.1, 4, .inl (fun _ => 0))), (q4, .inr (2, [.int (0), .int (0), .int (0), .int (0), .int (0)])), (q5, .inr (2, [.int (0), .int (0), .int (0), .int (0), .int (0)])), (q6, .inr (2, [.int (0), .int (0), .int (0), .int (0), .int (0)]))] H := hP
  have hD : va_D A [(h0, .inr (1, [.ref q1, .ref q2, .ref q3, .int (0), .int (0), .int (0)])), (q1, .inl (g.2.2.1, 5, .inl (fun _ => 0))), (q2, .inl (g.2.2.2.2.1, 4, .inr (.inr (.inr (.inr (va_up (va_up (fun _ => none) 0 (some q4)) 1 (some q5))))))), (q3, .inl (g.2.2.1, 4, .inl (fun _ => 0))), (q4, .inr (2, [.int (0), .int (0), .int (0), .int (0), .int (0)])), (q5, .inr (2, [.int (0), .int (0), .int (0), .int (0), .int (0)])), (q6, .inr (2, [.int (0), .int (0), .int (0), .int (0), .int (0)]))] := hD
  refine W.widen (k := 6) (n := 28) (Nat.le_of_ble_eq_true rfl) (Nat.le_of_ble_eq_true rfl) ?_
  refine va_astq (r := (RX4, TX4, 5)) hx hb hK hP hD hS 2 2 6 2 rfl rfl rfl rfl (inb_in (by decide)) dX2_init_60 (fun H locs hP hD hS => ?_)
  have hP : va_P (gD g) vwCl [(h0, .inr (1, [.ref q1, .ref q2, .ref q3, .int (0), .int (0), .int (0)])), (q1, .inl (g.2.2.1, 5, .inl (fun _ => 0))), (q2, .inl (g.2.2.2.2.1, 4, .inr (.inr (.inr (.inr (va_up (va_up (va_up (fun _ => none) 0 (some q4)) 1 (some q5)) 2 (some q6))))))), (q3, .inl (g.2.2.1, 4, .inl (fun _ => 0))), (q4, .inr (2, [.int (0), .int (0), .int (0), .int (0), .int (0)])), (q5, .inr (2, [.int (0), .int (0), .int (0), .int (0), .int (0)])), (q6, .inr (2, [.int (0), .int (0), .int (0), .int (0), .int (0)]))] H := hP
  have hD : va_D A [(h0, .inr (1, [.ref q1, .ref q2, .ref q3, .int (0), .int (0), .int (0)])), (q1, .inl (g.2.2.1, 5, .inl (fun _ => 0))), (q2, .inl (g.2.2.2.2.1, 4, .inr (.inr (.inr (.inr (va_up (va_up (va_up (fun _ => none) 0 (some q4)) 1 (some q5)) 2 (some q6))))))), (q3, .inl (g.2.2.1, 4, .inl (fun _ => 0))), (q4, .inr (2, [.int (0), .int (0), .int (0), .int (0), .int (0)])), (q5, .inr (2, [.int (0), .int (0), .int (0), .int (0), .int (0)])), (q6, .inr (2, [.int (0), .int (0), .int (0), .int (0), .int (0)]))] := hD
  refine lv_iinc (v := 3) (lv' := [(1, .int (3)), (0, .ref h0)]) hx hb dX2_init_61 hl (k := 0) rfl rfl (by decide) rfl (fun ls hl => ?_)
  refine lv_goto (tgt := 43) hx hb dX2_init_64 (by decide) ?_
  refine lv_iload_n hx hb dX2_init_43 rfl (lv_at hl 0 rfl) ?_
  refine lv_iconst (v := 4) hx hb dX2_init_44 (by decide) ?_
  refine lv_icmp_ge (tgt := 67) hx hb dX2_init_45 (by decide) (fun hc => absurd hc (by decide)) (fun hc => ?_)
  refine lv_aload_n hx hb dX2_init_48 rfl (lv_at hl 1 rfl) ?_
  refine va_get (D := gD g) (ci := 1) (v := .ref q2) (C := RX2) (T := TX2) (N := 6) hx hb hts in_X2 hown hK hP 0 rfl rfl 1 (by decide) (hts _ fl_X2_17) (fun _ h9 => h9) rfl dX2_init_49 ?_
  refine lv_iload_n hx hb dX2_init_52 rfl (lv_at hl 0 rfl) ?_
  refine va_new (ci := 2) (fs := [.int 0, .int 0, .int 0, .int 0, .int 0]) (C := RX4) (T := TX4) (N := 5) hx hb hts in_X4 tyX4 tyX4_ok hown (hts _ kl_X2_15) (hts _ ib_X4) (hts _ in9_X4) hK hP hD hS hA rfl (fun j hj => by rcases (show j = 0 ∨ j = 1 ∨ j = 2 ∨ j = 3 ∨ j = 4 by omega) with rfl | rfl | rfl | rfl | rfl <;> rfl) (Nat.le_of_ble_eq_true rfl) (Nat.le_of_ble_eq_true rfl) dX2_init_53 (fun q7 H hP hD hS => ?_)
  have hP : va_P (gD g) vwCl [(h0, .inr (1, [.ref q1, .ref q2, .ref q3, .int (0), .int (0), .int (0)])), (q1, .inl (g.2.2.1, 5, .inl (fun _ => 0))), (q2, .inl (g.2.2.2.2.1, 4, .inr (.inr (.inr (.inr (va_up (va_up (va_up (fun _ => none) 0 (some q4)) 1 (some q5)) 2 (some q6))))))), (q3, .inl (g.2.2.1, 4, .inl (fun _ => 0))), (q4, .inr (2, [.int (0), .int (0), .int (0), .int (0), .int (0)])), (q5, .inr (2, [.int (0), .int (0), .int (0), .int (0), .int (0)])), (q6, .inr (2, [.int (0), .int (0), .int (0), .int (0), .int (0)])), (q7, .inr (2, [.int 0, .int 0, .int 0, .int 0, .int 0]))] H := hP
  have hD : va_D A [(h0, .inr (1, [.ref q1, .ref q2, .ref q3, .int (0), .int (0), .int (0)])), (q1, .inl (g.2.2.1, 5, .inl (fun _ => 0))), (q2, .inl (g.2.2.2.2.1, 4, .inr (.inr (.inr (.inr (va_up (va_up (va_up (fun _ => none) 0 (some q4)) 1 (some q5)) 2 (some q6))))))), (q3, .inl (g.2.2.1, 4, .inl (fun _ => 0))), (q4, .inr (2, [.int (0), .int (0), .int (0), .int (0), .int (0)])), (q5, .inr (2, [.int (0), .int (0), .int (0), .int (0), .int (0)])), (q6, .inr (2, [.int (0), .int (0), .int (0), .int (0), .int (0)])), (q7, .inr (2, [.int 0, .int 0, .int 0, .int 0, .int 0]))] := hD
  refine W.widen (k := 7) (n := 33) (Nat.le_of_ble_eq_true rfl) (Nat.le_of_ble_eq_true rfl) ?_
  refine lv_dup hx hb dX2_init_56 rfl ?_
  have hPc := hP.sub (ws' := [(q7, .inr (2, [.int 0, .int 0, .int 0, .int 0, .int 0]))]) [7] rfl
  have hDc := hD.sub (ws' := [(q7, .inr (2, [.int 0, .int 0, .int 0, .int 0, .int 0]))]) [7] (by decide) rfl
  have hFc := va_free (wc := [(q7, .inr (2, [.int 0, .int 0, .int 0, .int 0, .int 0]))]) hD hS hA [7] rfl
  refine va_callv (va_runIN (As := []) (rest := [.ref q7, .int (3), .ref q2]) ⟨hx, hb, hml, hown, hts⟩ (c_X4_init l g q7 H.size) (⟨va_cnB 0 hts gi_X4 rfl rfl rfl hN.1 (hts _ in9_X4) ⟨by decide, by decide, by decide +kernel⟩ ⟨Nat.le_of_ble_eq_true rfl, Nat.le_of_ble_eq_true rfl⟩, rfl, hts _ im9_X4⟩) ⟨fun a U gg mk q => by obtain ⟨q0, q1, qP, qK, qD⟩ := q; exact ⟨q0, q1, qP, va_K.moved (u := U) (U := U.calling gg mk a) (Vm.Alike.refl U.vm) qK, qD⟩, fun U hU hW => ⟨rfl, by rw [hU], by rw [hU]; exact hPc, va_K.moved hW.alike hK, hDc.weaken (fun _ _ _ _ => trivial)⟩⟩ rfl rfl hl.1 rfl (lv_room (Nat.le_of_ble_eq_true rfl)) dX2_init_57 ⟨Nat.le_of_ble_eq_true rfl, Nat.le_of_ble_eq_true rfl⟩) hS (fun q _ h => hFc q h) hFc (fun u4 t H1 locs ht hvm hw hB hz1 hk1 hS => ?_)
  obtain ⟨hP1, hK1, hD1⟩ := hB
  rw [ht] at hP1
  clear hK1
  have hw : u4 0 = q7 := hw
  obtain ⟨hP, hD⟩ := va_join (wr := [(h0, .inr (1, [.ref q1, .ref q2, .ref q3, .int (0), .int (0), .int (0)])), (q1, .inl (g.2.2.1, 5, .inl (fun _ => 0))), (q2, .inl (g.2.2.2.2.1, 4, .inr (.inr (.inr (.inr (va_up (va_up (va_up (fun _ => none) 0 (some q4)) 1 (some q5)) 2 (some q6))))))), (q3, .inl (g.2.2.1, 4, .inl (fun _ => 0))), (q4, .inr (2, [.int (0), .int (0), .int (0), .int (0), .int (0)])), (q5, .inr (2, [.int (0), .int (0), .int (0), .int (0), .int (0)])), (q6, .inr (2, [.int (0), .int (0), .int (0), .int (0), .int (0)]))]) (w1 := [((u4 0), .inr (2, [.int (0), .int (0), .int (0), .int (0), .int (0)]))]) hP hD [7] [0, 1, 2, 3, 4, 5, 6] rfl rfl (by decide) (by decide) hk1 hFc hP1 hD1
  generalize H1 = H at hP hS ⊢
  clear hP1 hD1 hPc hDc hFc hk1 hz1
  have hP : va_P (gD g) vwCl [(h0, .inr (1, [.ref q1, .ref q2, .ref q3, .int (0), .int (0), .int (0)])), (q1, .inl (g.2.2.1, 5, .inl (fun _ => 0))), (q2, .inl (g.2.2.2.2.1, 4, .inr (.inr (.inr (.inr (va_up (va_up (va_up (fun _ => none) 0 (some q4)) 1 (some q5)) 2 (some q6))))))), (q3, .inl (g.2.2.1, 4, .inl (fun _ => 0))), (q4, .inr (2, [.int (0), .int (0), .int (0), .int (0), .int (0)])), (q5, .inr (2, [.int (0), .int (0), .int (0), .int (0), .int (0)])), (q6, .inr (2, [.int (0), .int (0), .int (0), .int (0), .int (0)])), ((u4 0), .inr (2, [.int (0), .int (0), .int (0), .int (0), .int (0)]))] H := hP
  have hD : va_D A [(h0, .inr (1, [.ref q1, .ref q2, .ref q3, .int (0), .int (0), .int (0)])), (q1, .inl (g.2.2.1, 5, .inl (fun _ => 0))), (q2, .inl (g.2.2.2.2.1, 4, .inr (.inr (.inr (.inr (va_up (va_up (va_up (fun _ => none) 0 (some q4)) 1 (some q5)) 2 (some q6))))))), (q3, .inl (g.2.2.1, 4, .inl (fun _ => 0))), (q4, .inr (2, [.int (0), .int (0), .int (0), .int (0), .int (0)])), (q5, .inr (2, [.int (0), .int (0), .int (0), .int (0), .int (0)])), (q6, .inr (2, [.int (0), .int (0), .int (0), .int (0), .int (0)])), ((u4 0), .inr (2, [.int (0), .int (0), .int (0), .int (0), .int (0)]))] := hD
  rw [hw] at hP hD
  have hP : va_P (gD g) vwCl [(h0, .inr (1, [.ref q1, .ref q2, .ref q3, .int (0), .int (0), .int (0)])), (q1, .inl (g.2.2.1, 5, .inl (fun _ => 0))), (q2, .inl (g.2.2.2.2.1, 4, .inr (.inr (.inr (.inr (va_up (va_up (va_up (fun _ => none) 0 (some q4)) 1 (some q5)) 2 (some q6))))))), (q3, .inl (g.2.2.1, 4, .inl (fun _ => 0))), (q4, .inr (2, [.int (0), .int (0), .int (0), .int (0), .int (0)])), (q5, .inr (2, [.int (0), .int (0), .int (0), .int (0), .int (0)])), (q6, .inr (2, [.int (0), .int (0), .int (0), .int (0), .int (0)])), (q7, .inr (2, [.int (0), .int (0), .int (0), .int (0), .int (0)]))] H := hP
  have hD : va_D A [(h0, .inr (1, [.ref q1, .ref q2, .ref q3, .int (0), .int (0), .int (0)])), (q1, .inl (g.2.2.1, 5, .inl (fun _ => 0))), (q2, .inl (g.2.2.2.2.1, 4, .inr (.inr (.inr (.inr (va_up (va_up (va_up (fun _ => none) 0 (some q4)) 1 (some q5)) 2 (some q6))))))), (q3, .inl (g.2.2.1, 4, .inl (fun _ => 0))), (q4, .inr (2, [.int (0), .int (0), .int (0), .int (0), .int (0)])), (q5, .inr (2, [.int (0), .int (0), .int (0), .int (0), .int (0)])), (q6, .inr (2, [.int (0), .int (0), .int (0), .int (0), .int (0)])), (q7, .inr (2, [.int (0), .int (0), .int (0), .int (0), .int (0)]))] := hD
  refine W.widen (k := 7) (n := 33) (Nat.le_of_ble_eq_true rfl) (Nat.le_of_ble_eq_true rfl) ?_
  refine va_astq (r := (RX4, TX4, 5)) hx hb hK hP hD hS 2 2 7 2 rfl rfl rfl rfl (inb_in (by decide)) dX2_init_60 (fun H locs hP hD hS => ?_)
  have hP : va_P (gD g) vwCl [(h0, .inr (1, [.ref q1, .ref q2, .ref q3, .int (0), .int (0), .int (0)])), (q1, .inl (g.2.2.1, 5, .inl (fun _ => 0))), (q2, .inl (g.2.2.2.2.1, 4, .inr (.inr (.inr (.inr (va_up (va_up (va_up (va_up (fun _ => none) 0 (some q4)) 1 (some q5)) 2 (some q6)) 3 (some q7))))))), (q3, .inl (g.2.2.1, 4, .inl (fun _ => 0))), (q4, .inr (2, [.int (0), .int (0), .int (0), .int (0), .int (0)])), (q5, .inr (2, [.int (0), .int (0), .int (0), .int (0), .int (0)])), (q6, .inr (2, [.int (0), .int (0), .int (0), .int (0), .int (0)])), (q7, .inr (2, [.int (0), .int (0), .int (0), .int (0), .int (0)]))] H := hP
  have hD : va_D A [(h0, .inr (1, [.ref q1, .ref q2, .ref q3, .int (0), .int (0), .int (0)])), (q1, .inl (g.2.2.1, 5, .inl (fun _ => 0))), (q2, .inl (g.2.2.2.2.1, 4, .inr (.inr (.inr (.inr (va_up (va_up (va_up (va_up (fun _ => none) 0 (some q4)) 1 (some q5)) 2 (some q6)) 3 (some q7))))))), (q3, .inl (g.2.2.1, 4, .inl (fun _ => 0))), (q4, .inr (2, [.int (0), .int (0), .int (0), .int (0), .int (0)])), (q5, .inr (2, [.int (0), .int (0), .int (0), .int (0), .int (0)])), (q6, .inr (2, [.int (0), .int (0), .int (0), .int (0), .int (0)])), (q7, .inr (2, [.int (0), .int (0), .int (0), .int (0), .int (0)]))] := hD
  refine lv_iinc (v := 4) (lv' := [(1, .int (4)), (0, .ref h0)]) hx hb dX2_init_61 hl (k := 0) rfl rfl (by decide) rfl (fun ls hl => ?_)
  refine lv_goto (tgt := 43) hx hb dX2_init_64 (by decide) ?_
  refine lv_iload_n hx hb dX2_init_43 rfl (lv_at hl 0 rfl) ?_
  refine lv_iconst (v := 4) hx hb dX2_init_44 (by decide) ?_
  refine lv_icmp_ge (tgt := 67) hx hb dX2_init_45 (by decide) (fun hc => ?_) (fun hc => absurd hc (by decide))
  exact W.vret hx hb hr (fun t ht hW => ⟨⟨fun k => ([h0, q1, q2, q3, q4, q5, q6, q7] : List Nat).getD k 0, rfl, rfl, by rw [ht]; exact hP, va_K.moved hW.alike hK, hD⟩, hS.F ht⟩) hS.2.2 dX2_init_67
