/-! states, worlds, rows: one theory for the class and for the model -/
abbrev St : Type := Nat → Nat → Int32
def up2 (σ : St) (c j : Nat) (v : Int32) : St := va_up σ c (upd (σ c) j v)
def cp2 (σ : St) (a sp b dp n : Nat) : St := va_up σ b (va_cpy (σ a) (σ b) sp dp n)
theorem up2_ne {σ : St} {c j : Nat} {v : Int32} : ∀ k, k ≠ c → up2 σ c j v k = σ k := fun k h => by simp [up2, va_up, h]
theorem cp2_ne {σ : St} {a sp b dp n : Nat} : ∀ k, k ≠ b → cp2 σ a sp b dp n k = σ k := fun k h => by simp [cp2, va_up, h]
theorem up2_row {σ : St} {c j : Nat} {v : Int32} : up2 σ c j v c = upd (σ c) j v := by simp [up2, va_up]
theorem cp2_row {σ : St} {a sp b dp n : Nat} : cp2 σ a sp b dp n b = va_cpy (σ a) (σ b) sp dp n := by simp [cp2, va_up]
abbrev Gh : Type := (Nat → ClassId) × (Nat → Nat → Nat) × ClassId × ClassId × ClassId × ClassId
abbrev gD (g : Gh) : va_G := (g.1, g.2.1)
abbrev gT (g : Gh) : List (ClassId × FieldType) := [(g.2.2.1, .int), (g.2.2.2.1, .boolean), (g.2.2.2.2.1, .object "YearDeck$Rider"), (g.2.2.2.2.2, .object "YearDeck$Sheet")]
def wv (e : Nat → va_E) (q : Nat → Nat) (N : Nat) : va_W := (List.range N).map fun k => (q k, e k)
theorem wv_get {e : Nat → va_E} {q : Nat → Nat} {N c : Nat} (h : c < N) : (wv e q N)[c]? = some (q c, e c) := by
  simp [wv, h]
theorem wv_inv {e : Nat → va_E} {q : Nat → Nat} {N c : Nat} {x : Nat × va_E} (h : (wv e q N)[c]? = some x) : c < N ∧ x = (q c, e c) := by
  rcases Nat.lt_or_ge c N with hc | hc
  · rw [wv_get hc] at h
    exact ⟨hc, (Option.some.inj h).symm⟩
  · rw [List.getElem?_eq_none (by simp [wv, hc])] at h
    cases h
theorem wv_set {e : Nat → va_E} {q : Nat → Nat} {N c : Nat} {x : va_E} : (wv e q N).set c (q c, x) = wv (va_up e c x) q N := by
  apply List.ext_getElem?
  intro i
  rw [List.getElem?_set]
  by_cases hi : c = i
  · subst hi
    rw [if_pos rfl]
    rcases Nat.lt_or_ge c N with hc | hc
    · rw [if_pos (by simp [wv, hc]), wv_get hc]
      simp [va_up]
    · rw [if_neg (by simp [wv]; omega), List.getElem?_eq_none (by simp [wv, hc])]
  · rw [if_neg hi]
    rcases Nat.lt_or_ge i N with hc | hc
    · rw [wv_get hc, wv_get hc]
      simp [va_up, Ne.symm hi]
    · rw [List.getElem?_eq_none (by simp [wv, hc]), List.getElem?_eq_none (by simp [wv, hc])]
def Loc1 (E : St → Nat → va_E) : Prop := ∀ (σ σ' : St) (k : Nat), σ k = σ' k → E σ k = E σ' k
theorem wv_up {E : St → Nat → va_E} (hE : Loc1 E) {q : Nat → Nat} {N cn : Nat} {σ σ' : St} (h : ∀ j, j ≠ cn → σ' j = σ j) {x : va_E} (hx : E σ' cn = x) : (wv (E σ) q N).set cn (q cn, x) = wv (E σ') q N := by
  rw [wv_set]
  have : va_up (E σ) cn x = E σ' := by
    funext j
    by_cases hj : j = cn
    · subst hj; simp [va_up, hx]
    · simp only [va_up, if_neg hj]
      exact hE _ _ _ (h j hj).symm
  rw [this]
def AQ (q : Nat → Nat) (N n : Nat) : Nat → Prop := fun a => (∃ k, k < N ∧ a = q k) ∨ n ≤ a
theorem AQ_D {A : Nat → Prop} {e : Nat → va_E} {q : Nat → Nat} {N : Nat} (n : Nat) (h : va_D A (wv e q N)) : va_D (AQ q N n) (wv e q N) :=
  ⟨h.1, fun k x hk => Or.inl ⟨k, (wv_inv hk).1, by rw [(wv_inv hk).2]⟩⟩
theorem AQ_D2 {A : Nat → Prop} {e e2 : Nat → va_E} {q : Nat → Nat} {N : Nat} (n : Nat) (h : va_D A (wv e q N)) : va_D (AQ q N n) (wv e2 q N) :=
  ⟨fun i j x y hi hj hxy => by
    obtain ⟨a1, a2⟩ := wv_inv hi
    obtain ⟨b1, b2⟩ := wv_inv hj
    exact h.1 i j _ _ (wv_get a1) (wv_get b1) (by rw [a2, b2] at hxy; exact hxy), fun k x hk => Or.inl ⟨k, (wv_inv hk).1, by rw [(wv_inv hk).2]⟩⟩
/-- the world holds: tables, cells, apart, nothing else written -/
def IV (g : Gh) (E : St → Nat → va_E) (q : Nat → Nat) (N : Nat) (s : State) (σ : St) (H : Heap) (locs : List Loc) : Prop :=
  va_K (gD g) vwCl (gT g) s ∧ va_P (gD g) vwCl (wv (E σ) q N) H ∧ va_D (AQ q N s.heap.size) (wv (E σ) q N) ∧ va_S (AQ q N s.heap.size) s.heap H locs
/-- the tables' words that go along into calls -/
def lw_g : List Cond := lw_tbl.filter goodWord
theorem lw_mem {w : Cond} (i : Nat) (h : lw_tbl[i]? = some w) (hg : goodWord w = true) : w ∈ lw_g := List.mem_filter.mpr ⟨List.mem_of_getElem? h, hg⟩
/-- a method's fixed surroundings -/
def MX (p : Program) (s : State) (m : MethodId) (args : Array Value) (meth : Method) (c : Code) (cc : ByteArray) (nL : Nat) (rt : Option FieldType) (own : String) : Prop :=
  p.tables.exec = Jvm.exec ∧ c.code = cc ∧ meth.sig.returnType = rt ∧ c.maxLocals = nL ∧ s.vm.findClass own = some m.cls ∧ (∀ w ∈ lw_g, w.before args s = true) ∧ meth.locks = false
def inb (i : Int32) (n : Nat) : Bool := decide (0 ≤ i) && decide (i.toNatClampNeg < n)
theorem inb_in {i : Int32} {n : Nat} (h : inb i n = true) : vp_in i n := by
  simp only [inb, Bool.and_eq_true, decide_eq_true_eq] at h
  rintro (h1 | h1)
  · have h0 := h.1
    rw [Int32.le_iff_toInt_le] at h0
    rw [Int32.lt_iff_toInt_lt] at h1
    omega
  · omega
theorem inb_lt {i : Int32} {n : Nat} (h : inb i n = true) : i.toNatClampNeg < n := by
  simp only [inb, Bool.and_eq_true, decide_eq_true_eq] at h
  exact h.2
def gd {α : Type} (b : Bool) (x : Option α) : Option α := match b with
  | true => x
  | false => none
theorem gd_s {α : Type} {b : Bool} {x : Option α} {r : α} (h : gd b x = some r) : b = true ∧ x = some r := by
  cases b
  · cases h
  · exact ⟨rfl, h⟩
theorem gd_t {α : Type} {b : Bool} {x : Option α} (h : b = true) : gd b x = x := by subst h; rfl
theorem ite_p {α : Type} {c : Prop} [Decidable c] {x y : Option α} {r : α} (hc : c) (h : (if c then x else y) = some r) : x = some r := by rwa [if_pos hc] at h
theorem ite_n {α : Type} {c : Prop} [Decidable c] {x y : Option α} {r : α} (hc : ¬ c) (h : (if c then x else y) = some r) : y = some r := by rwa [if_neg hc] at h
theorem bd_s {α β : Type} {x : Option α} {f : α → Option β} {r : β} (h : x.bind f = some r) : ∃ y, x = some y ∧ f y = some r := by
  cases x with
  | none => cases h
  | some y => exact ⟨y, rfl, h⟩
def isB (x : Int32) : Bool := decide (x = 0) || decide (x = 1)
theorem isB_n {x : Int32} (h : isB x = true) : narrow .boolean (.int x) = .int x := by
  simp only [isB, Bool.or_eq_true, decide_eq_true_eq] at h
  rcases h with rfl | rfl <;> rfl
def nz (x : Int32) : Bool := decide (¬ x = 0)
theorem nz_n {x : Int32} (h : nz x = true) : ¬ x = 0 := by simpa [nz] using h
def nzl (x : Int64) : Bool := decide (¬ x = 0)
theorem nzl_n {x : Int64} (h : nzl x = true) : ¬ x = 0 := by simpa [nzl] using h
def BQ (g : Gh) (E : St → Nat → va_E) (q : Nat → Nat) (N : Nat) (σ : St) (sz : Nat) : Unit → State → Prop := fun _ t =>
  va_P (gD g) vwCl (wv (E σ) q N) t.heap ∧ va_K (gD g) vwCl (gT g) t ∧ va_D (AQ q N sz) (wv (E σ) q N)
def QI (g : Gh) (E : St → Nat → va_E) (q : Nat → Nat) (N : Nat) (r : Int32) (σ : St) (sz : Nat) : Array Value → State → Outcome → State → Prop := va_Qi (fun x (_ : Unit) => x = r) (BQ g E q N σ sz) (AQ q N sz)
def QL (g : Gh) (E : St → Nat → va_E) (q : Nat → Nat) (N : Nat) (r : Int64) (σ : St) (sz : Nat) : Array Value → State → Outcome → State → Prop := va_Ql (fun x (_ : Unit) => x = r) (BQ g E q N σ sz) (AQ q N sz)
def QV (g : Gh) (E : St → Nat → va_E) (q : Nat → Nat) (N : Nat) (σ : St) (sz : Nat) : Array Value → State → Outcome → State → Prop := va_Qv (fun (_ : Unit) => True) (BQ g E q N σ sz) (AQ q N sz)
def PQ (g : Gh) (E : St → Nat → va_E) (q : Nat → Nat) (N : Nat) (σ : St) (sz : Nat) (av : List Value) : Array Value → State → Prop :=
  va_Pc av (fun U => U.heap.size = sz ∧ va_P (gD g) vwCl (wv (E σ) q N) U.heap ∧ va_K (gD g) vwCl (gT g) U ∧ va_D (AQ q N sz) (wv (E σ) q N))
def wU (y : MethodName) (cc : ByteArray) (nL : Nat) (rt : Option FieldType) : List Cond := .code y cc nL rt :: lw_g
def rmD (d : Nat) : Room := { frames := d, cells := 0, slots := 0, locals := 40 * d }
theorem lw_good : ∀ w ∈ lw_g, (w.onTables && w.keeps) = true ∨ ∃ ty, w = .arrayClass ty := fun _ hw => good_of_word (List.mem_filter.mp hw).2
theorem wU_good {y : MethodName} {cc : ByteArray} {nL : Nat} {rt : Option FieldType} (h : Cond.code y cc nL rt ∈ lw_g) : GoodIn lw_g (wU y cc nL rt) := by
  intro w hw
  rcases List.mem_cons.mp hw with rfl | hw
  · exact ⟨h, lw_good _ h⟩
  · exact ⟨hw, lw_good _ hw⟩
section R1
variable {p : Program} {l : Launch} {e : Env} {R : Room} {s : State} {m : MethodId} {args : Array Value} {below : List Frame} {meth : Method} {c : Code} {H : Heap} {locs : List Loc} {cells slots : Nat} {Q : State → Prop}
variable {cc : ByteArray} {pc nL : Nat} {rt : Option FieldType} {own : String} {ls : Array Slot} {rest : List Value}
variable {g : Gh} {E : St → Nat → va_E} {q : Nat → Nat} {N : Nat} {σ : St}
theorem r_get (X : MX p s m args meth c cc nL rt own) (I : IV g E q N s σ H locs) {C : String} {T : u_T} {Nf ci index cn k : Nat} {fs : List Value} {v : Value} (hin : ∀ w ∈ u_ws C T Nf, w ∈ lw_g) (hcl : vwCl[ci]? = some (C, T, Nf)) (hc : cn < N) (he : E σ cn = .inr (ci, fs)) (hk : k < Nf) (hv : fs[k]? = some v)
    (hl : Cond.fieldLink own index (T k).1 (T k).2.1 (T k).2.2.1 ∈ lw_g) (hdg : decode cc pc = .ok (.getfield index, 3))
    (kk : W p l e R s m args below meth c H locs cells slots Q (F0 m (pc + 3) ls (v :: rest))) : W p l e R s m args below meth c H locs cells slots Q (F0 m pc ls (.ref (q cn) :: rest)) := by
  obtain ⟨hx, hb, -, -, hown, hts, -⟩ := X
  exact va_get hx hb hts hin hown I.1 I.2.1 cn (by rw [wv_get hc, he]) hcl k hk (hts _ hl) (fun _ h => h) hv hdg kk
theorem r_put (hE : Loc1 E) (X : MX p s m args meth c cc nL rt own) (I : IV g E q N s σ H locs) {C : String} {T : u_T} {Nf ci index cn k : Nat} {fs : List Value} {x : Int32} (hin : ∀ w ∈ u_ws C T Nf, w ∈ lw_g) (hcl : vwCl[ci]? = some (C, T, Nf)) (ty0 : Nat → FieldType) (hty : ∀ k, k < Nf → parseFieldDescriptor (T k).2.2.1 = some (ty0 k)) (hnm : ∀ a, a < Nf → ∀ b, b < Nf → a ≠ b → (T a).2.1 ≠ (T b).2.1) (hfin : (T k).2.2.2 = false) (hint : ty0 k = .int)
    (hc : cn < N) (he : E σ cn = .inr (ci, fs)) (hk : k < Nf) (hlen : k < fs.length) (he2 : E (up2 σ cn k x) cn = .inr (ci, fs.set k (.int x)))
    (hl : Cond.fieldLink own index (T k).1 (T k).2.1 (T k).2.2.1 ∈ lw_g) (hdg : decode cc pc = .ok (.putfield index, 3))
    (kk : ∀ (H1 : Heap) (locs1 : List Loc), IV g E q N s (up2 σ cn k x) H1 locs1 → W p l e R s m args below meth c H1 locs1 cells slots Q (F0 m (pc + 3) ls rest)) : W p l e R s m args below meth c H locs cells slots Q (F0 m pc ls (.int x :: .ref (q cn) :: rest)) := by
  obtain ⟨hx, hb, -, -, hown, hts, -⟩ := X
  obtain ⟨hK, hP, hD, hS⟩ := I
  refine va_put (ty := .int) (v := .int x) hx hb hts hin ty0 hty hnm hown hK hP hD hS cn (by rw [wv_get hc, he]) hcl k hk (hts _ hl) (fun _ h => h) hfin (by rw [hty k hk, hint]) rfl rfl hlen hdg (fun H1 locs1 h1 h2 h3 => kk H1 locs1 ⟨hK, ?_, ?_, h3⟩)
  · rw [wv_up hE (up2_ne) he2] at h1; exact h1
  · rw [wv_up hE (up2_ne) he2] at h2; exact h2
theorem r_iald (X : MX p s m args meth c cc nL rt own) (I : IV g E q N s σ H locs) {cn n : Nat} {i : Int32} (hc : cn < N) (he : E σ cn = .inl (g.2.2.1, n, .inl (σ cn))) (hi : inb i n = true) (hdg : decode cc pc = .ok (.iaload, 1))
    (kk : W p l e R s m args below meth c H locs cells slots Q (F0 m (pc + 1) ls (.int (σ cn i.toNatClampNeg) :: rest))) : W p l e R s m args below meth c H locs cells slots Q (F0 m pc ls (.int i :: .ref (q cn) :: rest)) := by
  obtain ⟨hx, hb, -, -, hown, hts, -⟩ := X
  exact va_iald hx hb I.1 I.2.1 cn 0 (by rw [wv_get hc, he]) rfl (inb_in hi) hdg kk
theorem r_zald (X : MX p s m args meth c cc nL rt own) (I : IV g E q N s σ H locs) {cn n : Nat} {i : Int32} (hc : cn < N) (he : E σ cn = .inl (g.2.2.2.1, n, .inl (σ cn))) (hi : inb i n = true) (hdg : decode cc pc = .ok (.baload, 1))
    (kk : W p l e R s m args below meth c H locs cells slots Q (F0 m (pc + 1) ls (.int (σ cn i.toNatClampNeg) :: rest))) : W p l e R s m args below meth c H locs cells slots Q (F0 m pc ls (.int i :: .ref (q cn) :: rest)) := by
  obtain ⟨hx, hb, -, -, hown, hts, -⟩ := X
  exact va_zald hx hb I.1 I.2.1 cn 1 (by rw [wv_get hc, he]) rfl (inb_in hi) hdg kk
theorem r_aald (X : MX p s m args meth c cc nL rt own) (I : IV g E q N s σ H locs) {cn n b t0 : Nat} {cA : ClassId} {C : String} {i : Int32} (hc : cn < N) (ht : (gT g)[t0]? = some (cA, .object C)) (he : E σ cn = .inl (cA, n, .inr (.inr (.inr (.inr fun j => some (q (b + j))))))) (hi : inb i n = true) (hdg : decode cc pc = .ok (.aaload, 1))
    (kk : W p l e R s m args below meth c H locs cells slots Q (F0 m (pc + 1) ls (.ref (q (b + i.toNatClampNeg)) :: rest))) : W p l e R s m args below meth c H locs cells slots Q (F0 m pc ls (.int i :: .ref (q cn) :: rest)) := by
  obtain ⟨hx, hb, -, -, hown, hts, -⟩ := X
  exact va_aldq (f := fun j => some (q (b + j))) hx hb I.1 I.2.1 cn t0 (by rw [wv_get hc, he]) ht (inb_in hi) hdg kk
theorem r_iast (hE : Loc1 E) (X : MX p s m args meth c cc nL rt own) (I : IV g E q N s σ H locs) {cn n : Nat} {i x : Int32} (hc : cn < N) (he : ∀ τ, E τ cn = .inl (g.2.2.1, n, .inl (τ cn))) (hi : inb i n = true) (hdg : decode cc pc = .ok (.iastore, 1))
    (kk : ∀ (H1 : Heap) (locs1 : List Loc), IV g E q N s (up2 σ cn i.toNatClampNeg x) H1 locs1 → W p l e R s m args below meth c H1 locs1 cells slots Q (F0 m (pc + 1) ls rest)) : W p l e R s m args below meth c H locs cells slots Q (F0 m pc ls (.int x :: .int i :: .ref (q cn) :: rest)) := by
  obtain ⟨hx, hb, -, -, hown, hts, -⟩ := X
  obtain ⟨hK, hP, hD, hS⟩ := I
  have he2 : E (up2 σ cn i.toNatClampNeg x) cn = .inl (g.2.2.1, n, .inl (upd (σ cn) i.toNatClampNeg x)) := by rw [he, up2_row]
  refine va_iast hx hb hK hP hD hS cn 0 (by rw [wv_get hc, he]) rfl (inb_in hi) hdg (fun H1 locs1 h1 h2 h3 => kk H1 locs1 ⟨hK, ?_, ?_, h3⟩)
  · rw [wv_up hE (up2_ne) he2] at h1; exact h1
  · rw [wv_up hE (up2_ne) he2] at h2; exact h2
theorem r_zast (hE : Loc1 E) (X : MX p s m args meth c cc nL rt own) (I : IV g E q N s σ H locs) {cn n : Nat} {i x : Int32} (hc : cn < N) (he : ∀ τ, E τ cn = .inl (g.2.2.2.1, n, .inl (τ cn))) (hi : inb i n = true) (hdg : decode cc pc = .ok (.bastore, 1))
    (kk : ∀ (H1 : Heap) (locs1 : List Loc), IV g E q N s (up2 σ cn i.toNatClampNeg (vp_nar .boolean x)) H1 locs1 → W p l e R s m args below meth c H1 locs1 cells slots Q (F0 m (pc + 1) ls rest)) : W p l e R s m args below meth c H locs cells slots Q (F0 m pc ls (.int x :: .int i :: .ref (q cn) :: rest)) := by
  obtain ⟨hx, hb, -, -, hown, hts, -⟩ := X
  obtain ⟨hK, hP, hD, hS⟩ := I
  have he2 : E (up2 σ cn i.toNatClampNeg (vp_nar .boolean x)) cn = .inl (g.2.2.2.1, n, .inl (upd (σ cn) i.toNatClampNeg (vp_nar .boolean x))) := by rw [he, up2_row]
  refine va_zast hx hb hK hP hD hS cn 1 (by rw [wv_get hc, he]) rfl (inb_in hi) hdg (fun H1 locs1 h1 h2 h3 => kk H1 locs1 ⟨hK, ?_, ?_, h3⟩)
  · rw [wv_up hE (up2_ne) he2] at h1; exact h1
  · rw [wv_up hE (up2_ne) he2] at h2; exact h2
theorem r_iret (X : MX p s m args meth c cc nL (some .int) own) (I : IV g E q N s σ H locs) {x r : Int32} (h : some x = some r) (hdg : decode cc pc = .ok (.ireturn, 1)) : W p l e R s m args below meth c H locs 0 0 (MQ below (QI g E q N r σ s.heap.size) args s 0 0 (AQ q N s.heap.size)) (F0 m pc ls [.int x]) := by
  obtain ⟨hx, hb, hr, -, hown, hts, hlocks⟩ := X
  obtain ⟨hK, hP, hD, hS⟩ := I
  exact W.iret hx hb hr (fun t ht hW => ⟨⟨x, (), rfl, Option.some.inj h, by rw [ht]; exact hP, va_K.moved hW.alike hK, hD⟩, hS.F ht⟩) hS.2.2 hdg hlocks
theorem r_iret2 (X : MX p s m args meth c cc nL (some .int) own) {σ2 : St} (I : IV g E q N s σ2 H locs) {x : Int32} {r : Int32 × St} (h : some (x, σ2) = some r) (hdg : decode cc pc = .ok (.ireturn, 1)) : W p l e R s m args below meth c H locs 0 0 (MQ below (QI g E q N r.1 r.2 s.heap.size) args s 0 0 (AQ q N s.heap.size)) (F0 m pc ls [.int x]) := by
  cases h
  exact r_iret X I rfl hdg
theorem r_zret (X : MX p s m args meth c cc nL (some .boolean) own) (I : IV g E q N s σ H locs) {x r : Int32} (h : some x = some r) (hn : isB x = true) (hdg : decode cc pc = .ok (.ireturn, 1)) : W p l e R s m args below meth c H locs 0 0 (MQ below (QI g E q N r σ s.heap.size) args s 0 0 (AQ q N s.heap.size)) (F0 m pc ls [.int x]) := by
  obtain ⟨hx, hb, hr, -, hown, hts, hlocks⟩ := X
  obtain ⟨hK, hP, hD, hS⟩ := I
  exact W.zret hx hb hr (isB_n hn) (fun t ht hW => ⟨⟨x, (), rfl, Option.some.inj h, by rw [ht]; exact hP, va_K.moved hW.alike hK, hD⟩, hS.F ht⟩) hS.2.2 hdg hlocks
theorem r_zret2 (X : MX p s m args meth c cc nL (some .boolean) own) {σ2 : St} (I : IV g E q N s σ2 H locs) {x : Int32} {r : Int32 × St} (h : some (x, σ2) = some r) (hn : isB x = true) (hdg : decode cc pc = .ok (.ireturn, 1)) : W p l e R s m args below meth c H locs 0 0 (MQ below (QI g E q N r.1 r.2 s.heap.size) args s 0 0 (AQ q N s.heap.size)) (F0 m pc ls [.int x]) := by
  cases h
  exact r_zret X I rfl hn hdg
theorem r_lret (X : MX p s m args meth c cc nL (some .long) own) (I : IV g E q N s σ H locs) {x r : Int64} (h : some x = some r) (hdg : decode cc pc = .ok (.lreturn, 1)) : W p l e R s m args below meth c H locs 0 0 (MQ below (QL g E q N r σ s.heap.size) args s 0 0 (AQ q N s.heap.size)) (F0 m pc ls [.long x]) := by
  obtain ⟨hx, hb, hr, -, hown, hts, hlocks⟩ := X
  obtain ⟨hK, hP, hD, hS⟩ := I
  exact W.lret hx hb hr (fun t ht hW => ⟨⟨x, (), rfl, Option.some.inj h, by rw [ht]; exact hP, va_K.moved hW.alike hK, hD⟩, hS.F ht⟩) hS.2.2 hdg hlocks
theorem r_lret2 (X : MX p s m args meth c cc nL (some .long) own) {σ2 : St} (I : IV g E q N s σ2 H locs) {x : Int64} {r : Int64 × St} (h : some (x, σ2) = some r) (hdg : decode cc pc = .ok (.lreturn, 1)) : W p l e R s m args below meth c H locs 0 0 (MQ below (QL g E q N r.1 r.2 s.heap.size) args s 0 0 (AQ q N s.heap.size)) (F0 m pc ls [.long x]) := by
  cases h
  exact r_lret X I rfl hdg
theorem r_vret (X : MX p s m args meth c cc nL none own) {σ2 : St} (I : IV g E q N s σ2 H locs) {r : St} (h : some σ2 = some r) (hdg : decode cc pc = .ok (.return_, 1)) : W p l e R s m args below meth c H locs 0 0 (MQ below (QV g E q N r s.heap.size) args s 0 0 (AQ q N s.heap.size)) (F0 m pc ls []) := by
  cases h
  obtain ⟨hx, hb, hr, -, hown, hts, hlocks⟩ := X
  obtain ⟨hK, hP, hD, hS⟩ := I
  exact W.vret hx hb hr (fun t ht hW => ⟨⟨(), rfl, trivial, by rw [ht]; exact hP, va_K.moved hW.alike hK, hD⟩, hS.F ht⟩) hS.2.2 hdg hlocks
theorem r_calli {st0 : List Value} {a : Array Value} {r : Int32} {σ2 : St} (hr : va_Run p l e R s m args below meth c H locs cells slots 0 0 (F0 m pc ls st0) rest (QI g E q N r σ2 H.size a) (AQ q N H.size)) (I : IV g E q N s σ H locs)
    (kk : ∀ (H1 : Heap) (locs1 : List Loc), IV g E q N s σ2 H1 locs1 → W p l e R s m args below meth c H1 locs1 cells slots Q (F0 m (pc + 3) ls (.int r :: rest))) : W p l e R s m args below meth c H locs cells slots Q (F0 m pc ls st0) := by
  obtain ⟨hK, hP, hD, hS⟩ := I
  have hA : ∀ z, AQ q N H.size z → AQ q N s.heap.size z := fun z hz => hz.elim Or.inl fun h => Or.inr (Nat.le_trans hS.1 h)
  refine va_calli hr hS (fun z _ h => hA z h) hA (fun r1 u t H1 locs1 ht hvm hw hB hz hk hS1 => ?_)
  obtain ⟨h1, h2, h3⟩ := hB
  rw [ht] at h1
  rw [show r1 = r from hw]
  exact kk H1 locs1 ⟨va_K.moved hvm.symm h2, h1, AQ_D _ h3, hS1⟩
theorem r_calll {st0 : List Value} {a : Array Value} {r : Int64} {σ2 : St} (hr : va_Run p l e R s m args below meth c H locs cells slots 0 0 (F0 m pc ls st0) rest (QL g E q N r σ2 H.size a) (AQ q N H.size)) (I : IV g E q N s σ H locs)
    (kk : ∀ (H1 : Heap) (locs1 : List Loc), IV g E q N s σ2 H1 locs1 → W p l e R s m args below meth c H1 locs1 cells slots Q (F0 m (pc + 3) ls (.long r :: rest))) : W p l e R s m args below meth c H locs cells slots Q (F0 m pc ls st0) := by
  obtain ⟨hK, hP, hD, hS⟩ := I
  have hA : ∀ z, AQ q N H.size z → AQ q N s.heap.size z := fun z hz => hz.elim Or.inl fun h => Or.inr (Nat.le_trans hS.1 h)
  refine va_calll hr hS (fun z _ h => hA z h) hA (fun r1 u t H1 locs1 ht hvm hw hB hz hk hS1 => ?_)
  obtain ⟨h1, h2, h3⟩ := hB
  rw [ht] at h1
  rw [show r1 = r from hw]
  exact kk H1 locs1 ⟨va_K.moved hvm.symm h2, h1, AQ_D _ h3, hS1⟩
theorem r_callv {st0 : List Value} {a : Array Value} {σ2 : St} (hr : va_Run p l e R s m args below meth c H locs cells slots 0 0 (F0 m pc ls st0) rest (QV g E q N σ2 H.size a) (AQ q N H.size)) (I : IV g E q N s σ H locs)
    (kk : ∀ (H1 : Heap) (locs1 : List Loc), IV g E q N s σ2 H1 locs1 → W p l e R s m args below meth c H1 locs1 cells slots Q (F0 m (pc + 3) ls rest)) : W p l e R s m args below meth c H locs cells slots Q (F0 m pc ls st0) := by
  obtain ⟨hK, hP, hD, hS⟩ := I
  have hA : ∀ z, AQ q N H.size z → AQ q N s.heap.size z := fun z hz => hz.elim Or.inl fun h => Or.inr (Nat.le_trans hS.1 h)
  refine va_callv hr hS (fun z _ h => hA z h) hA (fun u t H1 locs1 ht hvm hw hB hz hk hS1 => ?_)
  obtain ⟨h1, h2, h3⟩ := hB
  rw [ht] at h1
  exact kk H1 locs1 ⟨va_K.moved hvm.symm h2, h1, AQ_D _ h3, hS1⟩
theorem PQ_blind {sz : Nat} {av : List Value} : FrameBlind (PQ g E q N σ sz av) := fun a U gf mk h => by
  obtain ⟨q0, q1, qP, qK, qD⟩ := h
  exact ⟨q0, q1, qP, va_K.moved (u := U) (U := U.calling gf mk a) (Vm.Alike.refl U.vm) qK, qD⟩
theorem PQ_at (I : IV g E q N s σ H locs) {av : List Value} : ∀ U : State, U.heap = H → s.WarmedH U.vm → PQ g E q N σ H.size av av.toArray U := fun U hU hW => by
  obtain ⟨hK, hP, hD, hS⟩ := I
  exact ⟨rfl, by rw [hU], by rw [hU]; exact hP, va_K.moved hW.alike hK, AQ_D _ hD⟩
/-- a callee, as the tables have it -/
def KV (C : String) (y : MethodName) (b : ByteArray) (mL : Nat) (rt : Option FieldType) (n : Nat) : Prop :=
  Cond.code y b mL rt ∈ lw_g ∧ Cond.instanceMethod y ∈ lw_g ∧ Cond.selects C y y ∈ lw_g ∧ Cond.initialized y.cls ∈ lw_g ∧ y.cls ≠ "java/lang/invoke/MethodHandle" ∧ y.cls ≠ "java/lang/invoke/VarHandle" ∧ (parseMethodDescriptor y.desc).map (fun d => d.parameters.length) = some n
def KS (y : MethodName) (b : ByteArray) (mL : Nat) (rt : Option FieldType) (n : Nat) : Prop :=
  Cond.code y b mL rt ∈ lw_g ∧ Cond.static y ∈ lw_g ∧ Cond.initialized y.cls ∈ lw_g ∧ y.cls ≠ "java/lang/invoke/MethodHandle" ∧ y.cls ≠ "java/lang/invoke/VarHandle" ∧ (parseMethodDescriptor y.desc).map (fun d => d.parameters.length) = some n
theorem r_runV {rt2 : Option FieldType} (X : MX p s m args meth c cc nL rt own) (I : IV g E q N s σ H locs) {y : MethodName} {b : ByteArray} {mL n index cn ci Nf d : Nat} {C : String} {T : u_T} {As st0 : List Value} {fs : List Value} {Qc : Array Value → State → Outcome → State → Prop}
    (hM : Met l y (wU y b mL rt2) (rmD d) (PQ g E q N σ H.size (.ref (q cn) :: As)) Qc 0 0 (AQ q N H.size)) (ky : KV C y b mL rt2 n) (hl : Cond.methodLink own index y ∈ lw_g) (hcl : vwCl[ci]? = some (C, T, Nf)) (hc : cn < N) (he : E σ cn = .inr (ci, fs)) (hR : d + 1 ≤ R.frames ∧ 8 + (mL + 11) + 40 * d ≤ R.locals) (hz : cells ≤ R.cells ∧ slots ≤ R.slots)
    (hn : As.length = n) (hst : st0 = As.reverse ++ .ref (q cn) :: rest) (hls : ls.size = nL) (hw : (rest.map fun v => v.category).sum ≤ 8) (hdg : decode cc pc = .ok (.invokevirtual index, 3)) : va_Run p l e R s m args below meth c H locs cells slots 0 0 (F0 m pc ls st0) rest (Qc (Value.ref (q cn) :: As).toArray) (AQ q N H.size) := by
  obtain ⟨hx, hb, hr, hml, hown, hts, hlocks⟩ := X
  obtain ⟨k1, k2, k3, k4, k5, k6, k7⟩ := ky
  exact va_runV (C := C) (n := n) (bytes := b) (maxL := mL) (ret := rt2) (rest := rest) (As := As) ⟨hx, hb, hml, hown, hts⟩ hM ⟨callB_of n hts (wU_good k1) rfl rfl rfl (hts _ k4) (hts _ hl) ⟨k5, k6, k7⟩ hR, hts _ k2, hts _ k3⟩ ⟨PQ_blind, va_recv I.1 I.2.1 hcl (by rw [wv_get hc, he]), PQ_at I⟩ rfl hn hls hst (lv_room hw) hdg hz
theorem r_runS {rt2 : Option FieldType} (X : MX p s m args meth c cc nL rt own) (I : IV g E q N s σ H locs) {y : MethodName} {b : ByteArray} {mL n index d : Nat} {As st0 : List Value} {Qc : Array Value → State → Outcome → State → Prop}
    (hM : Met l y (wU y b mL rt2) (rmD d) (PQ g E q N σ H.size As) Qc 0 0 (AQ q N H.size)) (ky : KS y b mL rt2 n) (hl : Cond.methodLink own index y ∈ lw_g) (hR : d + 1 ≤ R.frames ∧ 8 + (mL + 11) + 40 * d ≤ R.locals) (hz : cells ≤ R.cells ∧ slots ≤ R.slots)
    (hn : As.length = n) (hst : st0 = As.reverse ++ rest) (hls : ls.size = nL) (hw : (rest.map fun v => v.category).sum ≤ 8) (hdg : decode cc pc = .ok (.invokestatic index, 3)) : va_Run p l e R s m args below meth c H locs cells slots 0 0 (F0 m pc ls st0) rest (Qc As.toArray) (AQ q N H.size) := by
  obtain ⟨hx, hb, hr, hml, hown, hts, hlocks⟩ := X
  obtain ⟨k1, k2, k4, k5, k6, k7⟩ := ky
  exact va_runS (n := n) (bytes := b) (maxL := mL) (ret := rt2) (rest := rest) (As := As) ⟨hx, hb, hml, hown, hts⟩ hM ⟨callB_of n hts (wU_good k1) rfl rfl rfl (hts _ k4) (hts _ hl) ⟨k5, k6, k7⟩ hR, hts _ k2⟩ ⟨PQ_blind, PQ_at I⟩ rfl hn hls hst (lv_room hw) hdg hz
end R1
/-- a contract out of the walk of its body -/
theorem met_of {l : Launch} {y : MethodName} {cc : ByteArray} {nL d : Nat} {rt : Option FieldType} {g : Gh} {E : St → Nat → va_E} {q : Nat → Nat} {N : Nat} {σ : St} {sz : Nat} {av : List Value} {Qc : Nat → Array Value → State → Outcome → State → Prop} (hy : plainName y.cls = true) (hav : (lg_sl av).length ≤ nL)
    (body : ∀ (p : Program) (e : Env) (s : State) (m : MethodId) (below : List Frame) (meth : Method) (c : Code) (ls : Array Slot), MX p s m av.toArray meth c cc nL rt y.cls → IV g E q N s σ s.heap [] → lv_has ls nL (lv_args 0 av) → W p l e (rmD d) s m av.toArray below meth c s.heap [] 0 0 (MQ below (Qc s.heap.size) av.toArray s 0 0 (AQ q N s.heap.size)) (F0 m 0 ls [])) :
    Met l y (wU y cc nL rt) (rmD d) (PQ g E q N σ sz av) (Qc sz) 0 0 (AQ q N sz) := by
  refine Met.ofW (cc := cc) (maxL := nL) (ret := rt) hy rfl ?_
  intro p e s m args below meth c s₁ B hml hv
  obtain ⟨rfl, hsz, hP, hK, hD⟩ := hv
  subst hsz
  have hts := atoms_spec (ws := wU y cc nL rt) B.pre
  have hl := lv_entry av (n := nL) hav
  rw [lg_entry_eq]
  exact body p e s m below meth c _ ⟨B.exec, B.bytes, B.returns, hml, findClass_of_methodNamed B.named, fun w h => hts w (List.mem_cons_of_mem _ h), B.notSynchronized⟩ ⟨hK, hP, hD, va_S.rf⟩ hl
