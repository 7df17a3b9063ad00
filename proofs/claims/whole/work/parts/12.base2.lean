def FU : Nat := 2000
theorem ne_toInt {x k : Int32} {a : Int} (h : ¬ x = k) (hk : k.toInt = a) : x.toInt ≠ a := fun h2 => h (Int32.toInt_inj.mp (h2.trans hk.symm))
def cpok (sp dp n : Int32) (L : Nat) : Bool := decide (0 ≤ sp) && decide (0 ≤ dp) && decide (0 ≤ n) && decide (sp.toNatClampNeg + n.toNatClampNeg ≤ L) && decide (dp.toNatClampNeg + n.toNatClampNeg ≤ L)
theorem le_nlt {x : Int32} (h : 0 ≤ x) : ¬ x < 0 := by
  rw [Int32.le_iff_toInt_le] at h
  rw [Int32.lt_iff_toInt_lt]
  omega
theorem mc_l : Cond.methodLink RX6 220 arraycopyName ∈ lw_g := lw_mem 493 (by decide +kernel) rfl
theorem mc_n : Cond.native arraycopyName ∈ lw_g := lw_mem 495 (by decide +kernel) rfl
theorem mc_s : Cond.static arraycopyName ∈ lw_g := lw_mem 494 (by decide +kernel) rfl
theorem mc_i : Cond.initialized "java/lang/System" ∈ lw_g := lw_mem 52 (by decide +kernel) rfl
theorem r_copy {p : Program} {l : Launch} {e : Env} {R : Room} {s : State} {m : MethodId} {args : Array Value} {below : List Frame} {meth : Method} {c : Code} {H : Heap} {locs : List Loc} {cells slots : Nat} {Q : State → Prop} {cc : ByteArray} {pc nL : Nat} {rt : Option FieldType} {ls : Array Slot} {rest : List Value} {g : Gh} {q : Nat → Nat} {σ : St} (X : MX p s m args meth c cc nL rt RX6) (I : IC g q s σ H locs) {a b : Nat} {sp dp n : Int32} (hca : a < 23) (hcb : b < 23) (hea : ∀ τ, eC g q τ a = .inl (g.2.2.1, 60, .inl (τ a))) (heb : ∀ τ, eC g q τ b = .inl (g.2.2.1, 60, .inl (τ b)))
    (hg : cpok sp dp n 60 = true) (hfr : 1 ≤ R.frames) (hlo : (rest.map fun v => v.category).sum + (nativeFrameWords "java/lang/System" "arraycopy" 5 + 11) ≤ R.locals) (hls : ls.size = nL) (hdg : decode cc pc = .ok (.invokestatic 220, 3))
    (kk : ∀ (H1 : Heap) (locs1 : List Loc), IC g q s (cp2 σ a sp.toNatClampNeg b dp.toNatClampNeg n.toNatClampNeg) H1 locs1 → W p l e R s m args below meth c H1 locs1 cells slots Q (F0 m (pc + 3) ls rest)) : W p l e R s m args below meth c H locs cells slots Q (F0 m pc ls (.int n :: .int dp :: .ref (q b) :: .int sp :: .ref (q a) :: rest)) := by
  obtain ⟨hx, hb, -, hml, hown, hts, -⟩ := X
  obtain ⟨hK, hP, hD, hS⟩ := I
  simp only [cpok, Bool.and_eq_true, decide_eq_true_eq] at hg
  obtain ⟨⟨⟨⟨h1, h2⟩, h3⟩, h4⟩, h5⟩ := hg
  have he2 : eC g q (cp2 σ a sp.toNatClampNeg b dp.toNatClampNeg n.toNatClampNeg) b = .inl (g.2.2.1, 60, .inl (va_cpy (σ a) (σ b) sp.toNatClampNeg dp.toNatClampNeg n.toNatClampNeg)) := by rw [heb, cp2_row]
  refine va_copyi hx hb (hml.trans hls.symm) hown (hts _ mc_l) (hts _ mc_n) (hts _ mc_s) (hts _ mc_i) hK hP hD hS a b 0 0 (by rw [wv_get hca, hea]) (by rw [wv_get hcb, heb]) rfl rfl rfl (le_nlt h1) (le_nlt h2) (le_nlt h3) h4 h5 (fun _ _ => rfl) hfr hlo hdg (fun H1 locs1 k1 k2 k3 => kk H1 locs1 ⟨hK, ?_, ?_, k3⟩)
  · rw [wv_up (eC_loc g q) cp2_ne he2] at k1; exact k1
  · rw [wv_up (eC_loc g q) cp2_ne he2] at k2; exact k2
theorem mm_l : Cond.methodLink RX2 50 Lib.Math.min.name ∈ lw_g := lw_mem 250 (by decide +kernel) rfl
theorem mm_s : Cond.static Lib.Math.min.name ∈ lw_g := lw_mem 251 (by decide +kernel) rfl
theorem mm_i : Cond.initialized "java/lang/Math" ∈ lw_g := lw_mem 49 (by decide +kernel) rfl
theorem mm_c : Cond.code Lib.Math.min.name Lib.Math.min.code 2 (some .int) ∈ lw_g := lw_mem 252 (by decide +kernel) rfl
theorem r_min {p : Program} {l : Launch} {e : Env} {R : Room} {s : State} {m : MethodId} {args : Array Value} {below : List Frame} {meth : Method} {c : Code} {H : Heap} {locs : List Loc} {cells slots : Nat} {Q : State → Prop} {cc : ByteArray} {pc nL : Nat} {rt : Option FieldType} {ls : Array Slot} {rest : List Value} (X : MX p s m args meth c cc nL rt RX2) {x y : Int32} (hfr : 1 ≤ R.frames) (hlo : (rest.map fun v => v.category).sum + 13 ≤ R.locals) (hz : cells ≤ R.cells ∧ slots ≤ R.slots) (hls : ls.size = nL) (hdg : decode cc pc = .ok (.invokestatic 50, 3))
    (kk : W p l e R s m args below meth c H locs cells slots Q (F0 m (pc + 3) ls (.int (if y < x then y else x) :: rest))) : W p l e R s m args below meth c H locs cells slots Q (F0 m pc ls (.int y :: .int x :: rest)) := by
  obtain ⟨hx, hb, -, hml, hown, hts, -⟩ := X
  exact va_mmin hx hb (hml.trans hls.symm) hown (hts _ mm_l) (hts _ mm_s) (hts _ mm_i) (hts _ mm_c) hfr hlo hz.1 hz.2 hdg kk
theorem roomR {d : Nat} : d + 2 + 1 ≤ (rmD (d + 3)).frames ∧ 8 + (6 + 11) + 40 * (d + 2) ≤ (rmD (d + 3)).locals := by
  constructor <;> simp only [rmD] <;> omega
theorem rm_le {d k mL : Nat} (hk : k ≤ 2) (hm : mL ≤ 20) : k + 1 ≤ (rmD (d + 3)).frames ∧ 8 + (mL + 11) + 40 * k ≤ (rmD (d + 3)).locals := by
  constructor <;> simp only [rmD] <;> omega
