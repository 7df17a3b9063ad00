/-! THE LAW: two worlds side by side -/
def LJ (g : Gh) (E : St → Nat → va_E) (q : Nat → Nat) (N : Nat) (E2 : St → Nat → va_E) (q2 : Nat → Nat) (N2 : Nat) (s : State) (σ τ : St) (H : Heap) (locs : List Loc) : Prop :=
  va_K (gD g) vwCl (gT g) s ∧ va_P (gD g) vwCl (wv (E σ) q N) H ∧ va_P (gD g) vwCl (wv (E2 τ) q2 N2) H ∧ va_D (fun a : Nat => s.heap.size ≤ a) (wv (E σ) q N) ∧ va_D (fun a : Nat => s.heap.size ≤ a) (wv (E2 τ) q2 N2) ∧ (∀ i j, i < N → j < N2 → q i ≠ q2 j) ∧ va_S (fun a : Nat => s.heap.size ≤ a) s.heap H locs
theorem LJ.swap {g : Gh} {E : St → Nat → va_E} {q : Nat → Nat} {N : Nat} {E2 : St → Nat → va_E} {q2 : Nat → Nat} {N2 : Nat} {s : State} {σ τ : St} {H : Heap} {locs : List Loc} (h : LJ g E q N E2 q2 N2 s σ τ H locs) : LJ g E2 q2 N2 E q N s τ σ H locs := by
  obtain ⟨h1, h2, h3, h4, h5, h6, h7⟩ := h
  exact ⟨h1, h3, h2, h5, h4, fun i j hi hj e => h6 j i hj hi e.symm, h7⟩
section RL
variable {p : Program} {l : Launch} {e : Env} {R : Room} {s : State} {m : MethodId} {args : Array Value} {below : List Frame} {meth : Method} {c : Code} {H : Heap} {locs : List Loc} {cells slots : Nat} {Q : State → Prop}
variable {cc : ByteArray} {pc nL : Nat} {rt : Option FieldType} {own : String} {ls : Array Slot} {rest : List Value}
variable {g : Gh} {E : St → Nat → va_E} {q : Nat → Nat} {N : Nat} {E2 : St → Nat → va_E} {q2 : Nat → Nat} {N2 : Nat} {σ τ : St}
theorem l_runV {rt2 : Option FieldType} (X : MX p s m args meth c cc nL rt own) (I : LJ g E q N E2 q2 N2 s σ τ H locs) {y : MethodName} {b : ByteArray} {mL n index cn ci Nf d : Nat} {C : String} {T : u_T} {As st0 : List Value} {fs : List Value} {Qc : Array Value → State → Outcome → State → Prop}
    (hM : Met l y (wU y b mL rt2) (rmD d) (PQ g E q N σ H.size (.ref (q cn) :: As)) Qc 0 0 (AQ q N H.size)) (ky : KV C y b mL rt2 n) (hl : Cond.methodLink own index y ∈ lw_g) (hcl : vwCl[ci]? = some (C, T, Nf)) (hc : cn < N) (he : E σ cn = .inr (ci, fs)) (hR : d + 1 ≤ R.frames ∧ 8 + (mL + 11) + 40 * d ≤ R.locals) (hz : cells ≤ R.cells ∧ slots ≤ R.slots)
    (hn : As.length = n) (hst : st0 = As.reverse ++ .ref (q cn) :: rest) (hls : ls.size = nL) (hw : (rest.map fun v => v.category).sum ≤ 8) (hdg : decode cc pc = .ok (.invokevirtual index, 3)) : va_Run p l e R s m args below meth c H locs cells slots 0 0 (F0 m pc ls st0) rest (Qc (Value.ref (q cn) :: As).toArray) (AQ q N H.size) := by
  obtain ⟨hx, hb, hr, hml, hown, hts, hlocks⟩ := X
  obtain ⟨k1, k2, k3, k4, k5, k6, k7⟩ := ky
  obtain ⟨hK, hP, -, hD, -⟩ := I
  exact va_runV (C := C) (n := n) (bytes := b) (maxL := mL) (ret := rt2) (rest := rest) (As := As) ⟨hx, hb, hml, hown, hts⟩ hM ⟨callB_of n hts (wU_good k1) rfl rfl rfl (hts _ k4) (hts _ hl) ⟨k5, k6, k7⟩ hR, hts _ k2, hts _ k3⟩ ⟨PQ_blind, va_recv hK hP hcl (by rw [wv_get hc, he]), fun U hU hW => ⟨rfl, by rw [hU], by rw [hU]; exact hP, va_K.moved hW.alike hK, AQ_D _ hD⟩⟩ rfl hn hls hst (lv_room hw) hdg hz
theorem LJ.next (I : LJ g E q N E2 q2 N2 s σ τ H locs) {σ2 : St} {t : State} {H1 : Heap} {locs1 : List Loc} (ht : t.heap = H1) (hvm : s.vm.Alike t.vm) (hB : BQ g E q N σ2 H.size () t) (hk : ∀ z : Nat, z < H.size → ¬ AQ q N H.size z → H1[z]? = H[z]?) (hS1 : va_S (fun a : Nat => s.heap.size ≤ a) s.heap H1 locs1) : LJ g E q N E2 q2 N2 s σ2 τ H1 locs1 := by
  obtain ⟨hK, hP, hP2, hD, hD2, hne, hS⟩ := I
  obtain ⟨h1, h2, h3⟩ := hB
  rw [ht] at h1
  refine ⟨va_K.moved hvm.symm h2, h1, hP2.kept (fun k x hx => ?_), ⟨h3.1, fun k x hx => ?_⟩, hD2, hne, hS1⟩
  · have hlt := (hP2 k x hx).lt
    refine hk x.1 hlt ?_
    rintro (⟨i, hi, e⟩ | h)
    · obtain ⟨c1, c2⟩ := wv_inv hx
      exact hne i k hi c1 (by rw [← e, c2])
    · omega
  · obtain ⟨c1, c2⟩ := wv_inv hx
    have := hD.2 k _ (wv_get (e := E σ) (q := q) c1)
    rw [c2]; exact this
theorem LJ.A (I : LJ g E q N E2 q2 N2 s σ τ H locs) : ∀ z, AQ q N H.size z → (fun a : Nat => s.heap.size ≤ a) z := by
  obtain ⟨hK, hP, hP2, hD, hD2, hne, hS⟩ := I
  rintro z (⟨k, hk, rfl⟩ | h)
  · exact hD.2 k _ (wv_get (e := E σ) (q := q) hk)
  · exact Nat.le_trans hS.1 h
theorem l_calli {st0 : List Value} {a : Array Value} {r : Int32} {σ2 : St} (hr : va_Run p l e R s m args below meth c H locs cells slots 0 0 (F0 m pc ls st0) rest (QI g E q N r σ2 H.size a) (AQ q N H.size)) (I : LJ g E q N E2 q2 N2 s σ τ H locs)
    (kk : ∀ (H1 : Heap) (locs1 : List Loc), LJ g E q N E2 q2 N2 s σ2 τ H1 locs1 → W p l e R s m args below meth c H1 locs1 cells slots Q (F0 m (pc + 3) ls (.int r :: rest))) : W p l e R s m args below meth c H locs cells slots Q (F0 m pc ls st0) := by
  have hA := I.A
  refine va_calli hr I.2.2.2.2.2.2 (fun z _ h => hA z h) hA (fun r1 u t H1 locs1 ht hvm hw hB hz hk hS1 => ?_)
  rw [show r1 = r from hw]
  exact kk H1 locs1 (I.next ht hvm hB hk hS1)
theorem l_calll {st0 : List Value} {a : Array Value} {r : Int64} {σ2 : St} (hr : va_Run p l e R s m args below meth c H locs cells slots 0 0 (F0 m pc ls st0) rest (QL g E q N r σ2 H.size a) (AQ q N H.size)) (I : LJ g E q N E2 q2 N2 s σ τ H locs)
    (kk : ∀ (H1 : Heap) (locs1 : List Loc), LJ g E q N E2 q2 N2 s σ2 τ H1 locs1 → W p l e R s m args below meth c H1 locs1 cells slots Q (F0 m (pc + 3) ls (.long r :: rest))) : W p l e R s m args below meth c H locs cells slots Q (F0 m pc ls st0) := by
  have hA := I.A
  refine va_calll hr I.2.2.2.2.2.2 (fun z _ h => hA z h) hA (fun r1 u t H1 locs1 ht hvm hw hB hz hk hS1 => ?_)
  rw [show r1 = r from hw]
  exact kk H1 locs1 (I.next ht hvm hB hk hS1)
end RL
theorem Rel_0 : Rel σ0 τ0 := by
  refine ⟨⟨rfl, by decide⟩, ⟨rfl, by decide⟩, ⟨rfl, by decide⟩, ⟨rfl, by decide⟩, ⟨rfl, rfl, rfl, rfl⟩, ⟨rfl, rfl⟩, fun s hs => absurd hs (Nat.not_lt_zero s), fun s hs => absurd hs (Nat.not_lt_zero s), fun s hs => absurd hs (Nat.not_lt_zero s), fun k hk => Or.inl ?_⟩
  rcases (show k = 0 ∨ k = 1 ∨ k = 2 ∨ k = 3 by omega) with rfl | rfl | rfl | rfl <;> exact ⟨rfl, rfl, rfl⟩
theorem vp_k {i k L : Nat} (h : i + 6 ≤ L) (hk : k ≤ 5) (hL : L ≤ 384) : vp_in (nI i + nI k) L := by
  rw [nI_add]; exact vp_in_nI (by omega) (by omega)
