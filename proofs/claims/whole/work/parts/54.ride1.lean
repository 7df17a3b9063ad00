/-! RIDE: the text read on both sides -/
theorem s48 (v : Nat) : nI (48 + v) - 48 = nI v := by
  rw [← nI_add]
  show nI 48 + nI v - nI 48 = nI v
  rw [Int32.add_comm, Int32.add_sub_cancel]
def DG (c : Int32) (lo hi : Nat) : Bool := decide ((48 + lo : Int) ≤ c.toInt) && decide (c.toInt ≤ (48 + hi : Int))
theorem DG_nat {c : Int32} {lo hi : Nat} (hh : hi ≤ 100) (h : DG c lo hi = true) : ∃ v, lo ≤ v ∧ v ≤ hi ∧ c = nI (48 + v) := by
  unfold DG at h
  rw [Bool.and_eq_true, decide_eq_true_eq, decide_eq_true_eq] at h
  refine ⟨(c.toInt - 48).toNat, by omega, by omega, ?_⟩
  rw [eq_i, nI_toInt (by omega)]
  omega
theorem isD_eq (ρ : St) (c : Int32) {lo hi : Nat} (hl : lo ≤ 100) (hh : hi ≤ 100) : D_X3_isDigit ρ c (nI lo) (nI hi) = some (if DG c lo hi then 1 else 0) := by
  unfold D_X3_isDigit
  rw [show (48 : Int32) + nI lo = nI (48 + lo) from nI_add 48 lo, show (48 : Int32) + nI hi = nI (48 + hi) from nI_add 48 hi]
  by_cases h1 : c < nI (48 + lo)
  · have h1' := h1
    rw [lt_i, nI_toInt (by omega)] at h1'
    have : DG c lo hi = false := by
      unfold DG
      rw [decide_eq_false (by omega)]; rfl
    rw [if_pos h1, this]; rfl
  · rw [if_neg h1]
    rw [lt_i, nI_toInt (by omega)] at h1
    by_cases h2 : nI (48 + hi) < c
    · have h2' := h2
      rw [lt_i, nI_toInt (by omega)] at h2'
      have : DG c lo hi = false := by
        unfold DG
        rw [decide_eq_false (p := c.toInt ≤ (48 + hi : Int)) (by omega), Bool.and_false]
      rw [if_pos h2, this]; rfl
    · rw [if_neg h2]
      rw [lt_i, nI_toInt (by omega)] at h2
      have : DG c lo hi = true := by
        unfold DG
        rw [decide_eq_true (by omega), decide_eq_true (by omega)]; rfl
      rw [this]; rfl
theorem bm48 {d : Int} (b1 : -2 ^ 31 ≤ d) (b2 : d < 2 ^ 31) : (d - 48).bmod (2 ^ 32) = d - 48 ∨ (d < -2147483600 ∧ (d - 48).bmod (2 ^ 32) = d - 48 + 4294967296) := by
  rw [Int.bmod_def]
  simp only [Nat.reducePow, Int.reducePow] at b1 b2 ⊢
  omega
theorem DG_out {c : Int32} {lo hi : Nat} (hl : lo ≤ 100) (hh : hi ≤ 100) (h : DG c lo hi = false) : c - 48 < nI lo ∨ nI hi < c - 48 := by
  have b1 := Int32.le_toInt c
  have b2 := Int32.toInt_lt c
  rw [lt_i, lt_i, nI_toInt (by omega), nI_toInt (by omega), Int32.toInt_sub, show (48 : Int32).toInt = 48 from rfl]
  unfold DG at h
  rw [Bool.and_eq_false_iff, decide_eq_false_iff_not, decide_eq_false_iff_not] at h
  have e := bm48 b1 b2
  omega
section PR
variable {σ τ : St}
/-- the class's text -/
def TA (ρ : St) (k a n : Nat) (T : Nat → Int32) : Prop := ∃ L, L ≤ 60 ∧ a + n ≤ L ∧ ρ (14 + k) 2 = nI L ∧ ∀ x, x < n → ρ (18 + k) (a + x) = T x
theorem TA.at {ρ : St} {k a n : Nat} {T : Nat → Int32} (h : TA ρ k a n T) {x : Nat} (hx : x < n) : D_X5_at ρ (14 + k) (nI (a + x)) = some (T x) := by
  obtain ⟨L, h1, h2, h3, h4⟩ := h
  rw [at_y ρ h3 (by omega) h1, show 14 + k + 4 = 18 + k by omega, h4 x hx]
theorem TA.le {ρ : St} {k a n : Nat} {T : Nat → Int32} (h : TA ρ k a n T) : a + n ≤ 60 := by
  obtain ⟨L, h1, h2, -⟩ := h
  omega
theorem TA.fr {ρ ρ' : St} {k a n : Nat} {T : Nat → Int32} (h : TA ρ k a n T) (e : ∀ c, 14 ≤ c → ρ' c = ρ c) : TA ρ' k a n T := by
  obtain ⟨L, h1, h2, h3, h4⟩ := h
  exact ⟨L, h1, h2, by rw [e _ (by omega)]; exact h3, by rw [e _ (by omega)]; exact h4⟩
/-- the first fault from x on -/
def CF (ρ : St) (k a n S x : Nat) : Option Int32 := D_X3_firstFault_10 ρ (14 + k) (nI a) (nI n) (nI S) (FU - x) (nI x)
theorem CF_s {ρ : St} {k a n S x : Nat} (hx : x < n) (hn : n ≤ 60) : CF ρ k a n S x = (D_X3_goesOn ρ (14 + k) (nI a) (nI x) (nI S)).bind fun y => if y = 0 then some (nI x) else CF ρ k a n S (x + 1) := by
  unfold CF
  have : FU - x = (FU - (x + 1)) + 1 := by unfold FU; omega
  rw [this]
  show D_X3_firstFault_10b _ _ _ _ _ _ _ = _
  unfold D_X3_firstFault_10b
  rw [if_neg (nI_ge hx (by omega)), nI_succ]
theorem CF_t {ρ : St} {k a n S x : Nat} (hx : x < n) (hn : n ≤ 60) (h : D_X3_goesOn ρ (14 + k) (nI a) (nI x) (nI S) = some 1) : CF ρ k a n S x = CF ρ k a n S (x + 1) := by
  rw [CF_s hx hn, h, Option.bind_some, if_neg i10]
theorem CF_f {ρ : St} {k a n S x : Nat} (hx : x < n) (hn : n ≤ 60) (h : D_X3_goesOn ρ (14 + k) (nI a) (nI x) (nI S) = some 0) : CF ρ k a n S x = some (nI x) := by
  rw [CF_s hx hn, h, Option.bind_some, if_pos rfl]
theorem ff_fin : ∀ n : Fin 61, ∀ S : Fin 6, D_X3_firstFault_36 σ00 (nI n.val) (nI S.val) = some (if 0 < S.val ∧ 3 + S.val < n.val ∧ (n.val - 3 - S.val) % 8 = 0 then -9 else nI n.val) := by decide +kernel
theorem CF_e {ρ : St} {k a n S : Nat} (hn : n ≤ 60) (hS : S ≤ 5) : CF ρ k a n S n = some (if 0 < S ∧ 3 + S < n ∧ (n - 3 - S) % 8 = 0 then -9 else nI n) := by
  unfold CF
  have : FU - n = (FU - (n + 1)) + 1 := by unfold FU; omega
  rw [this]
  show D_X3_firstFault_10b _ _ _ _ _ _ _ = _
  unfold D_X3_firstFault_10b
  rw [if_pos (nI_le (Nat.le_refl _) (by omega))]
  exact ff_fin ⟨n, by omega⟩ ⟨S, by omega⟩
theorem z0 : nI 0 = (0 : Int32) := by decide
theorem z1 : nI 1 = (1 : Int32) := by decide
theorem z2 : nI 2 = (2 : Int32) := by decide
theorem z3 : nI 3 = (3 : Int32) := by decide
theorem z4 : nI 4 = (4 : Int32) := by decide
theorem go0 {ρ : St} {k a n S : Nat} {T : Nat → Int32} (t : TA ρ k a n T) (h : 0 < n) : D_X3_goesOn ρ (14 + k) (nI a) (nI 0) (nI S) = some (if T 0 = 117 then 1 else 0) := by
  unfold D_X3_goesOn
  rw [nI_add, t.at h, Option.bind_some, if_pos z0]
  split <;> rfl
theorem isB_if (b : Bool) : isB (if b then 1 else 0) = true := by cases b <;> rfl
theorem go1 {ρ : St} {k a n S : Nat} {T : Nat → Int32} (t : TA ρ k a n T) (h : 1 < n) : D_X3_goesOn ρ (14 + k) (nI a) (nI 1) (nI S) = some (if DG (T 1) 0 3 then 1 else 0) := by
  unfold D_X3_goesOn
  rw [nI_add, t.at h, Option.bind_some, if_neg (by decide), if_pos z1, show D_X3_isDigit ρ (T 1) 0 3 = _ from isD_eq ρ (T 1) (lo := 0) (hi := 3) (by decide) (by decide), Option.bind_some, isB_if, gd_true]
theorem go2 {ρ : St} {k a n S : Nat} {T : Nat → Int32} (t : TA ρ k a n T) (h : 2 < n) : D_X3_goesOn ρ (14 + k) (nI a) (nI 2) (nI S) = some (if T 2 = 44 then 1 else 0) := by
  unfold D_X3_goesOn
  rw [nI_add, t.at h, Option.bind_some, if_neg (by decide), if_neg (by decide), if_pos z2]
  split <;> rfl
theorem x012 {x : Nat} (h : 3 ≤ x) (hx : x ≤ 100) : ¬ nI x = 0 ∧ ¬ nI x = 1 ∧ ¬ nI x = 2 := by
  refine ⟨fun q => ?_, fun q => ?_, fun q => ?_⟩
  · have := (nI_eq (a := x) (b := 0) (by omega) (by decide)).mp q; omega
  · have := (nI_eq (a := x) (b := 1) (by omega) (by decide)).mp q; omega
  · have := (nI_eq (a := x) (b := 2) (by omega) (by decide)).mp q; omega
theorem goS {ρ : St} {k a n S x : Nat} {T : Nat → Int32} (t : TA ρ k a n T) (h3 : 3 ≤ x) (hS : x < 3 + S) (h5 : S ≤ 5) (h : x < n) : D_X3_goesOn ρ (14 + k) (nI a) (nI x) (nI S) = some 1 := by
  obtain ⟨q0, q1, q2⟩ := x012 h3 (by omega)
  unfold D_X3_goesOn
  rw [nI_add, t.at h, Option.bind_some, if_neg q0, if_neg q1, if_neg q2, show (3 : Int32) + nI S = nI (3 + S) from nI_add 3 S, if_neg (nI_ge hS (by omega))]
theorem goZ {ρ : St} {k a n : Nat} {T : Nat → Int32} (t : TA ρ k a n T) (h : 3 < n) : D_X3_goesOn ρ (14 + k) (nI a) (nI 3) (nI 0) = some 0 := by
  unfold D_X3_goesOn
  rw [nI_add, t.at h, Option.bind_some]; rfl
theorem gm_fin : ∀ S : Fin 6, ∀ m : Fin 64, nI (3 + S.val + m.val) - 3 - nI S.val = nI m.val ∧ nI m.val - nI m.val / 8 * 8 = nI (m.val % 8) := by decide +kernel
theorem go4 {ρ : St} {k a n S m : Nat} {T : Nat → Int32} (t : TA ρ k a n T) (h1 : 1 ≤ S) (h5 : S ≤ 5) (hm : 32 ≤ m) (h : 3 + S + m < n) : D_X3_goesOn ρ (14 + k) (nI a) (nI (3 + S + m)) (nI S) = some 0 := by
  have hn := t.le
  obtain ⟨q0, q1, q2⟩ := x012 (x := 3 + S + m) (by omega) (by omega)
  obtain ⟨g1, -⟩ := gm_fin ⟨S, by omega⟩ ⟨m, by omega⟩
  simp only at g1
  unfold D_X3_goesOn
  rw [nI_add, t.at h, Option.bind_some, if_neg q0, if_neg q1, if_neg q2, show (3 : Int32) + nI S = nI (3 + S) from nI_add 3 S, if_pos (nI_le (by omega) (by omega)), if_neg (fun q => by have := (nI_z (by omega)).mp q; omega), g1, if_neg (show ¬ nI m < (32 : Int32) by rw [lt_i, nI_toInt (by omega)]; show ¬ _ < (32 : Int); omega)]
theorem goR {ρ : St} {k a n S m r : Nat} {T : Nat → Int32} (t : TA ρ k a n T) (h1 : 1 ≤ S) (h5 : S ≤ 5) (hm : m < 32) (hr : m % 8 = r) (h : 3 + S + m < n) : D_X3_goesOn ρ (14 + k) (nI a) (nI (3 + S + m)) (nI S) = (D_X3_riderGoesOn ρ (14 + k) (nI (a + (3 + S + m))) (nI r) (nI S)).bind fun y => gd (isB y) (some y) := by
  have hn := t.le
  obtain ⟨q0, q1, q2⟩ := x012 (x := 3 + S + m) (by omega) (by omega)
  obtain ⟨g1, g2⟩ := gm_fin ⟨S, by omega⟩ ⟨m, by omega⟩
  simp only at g1 g2
  unfold D_X3_goesOn
  rw [nI_add a, t.at h, Option.bind_some, if_neg q0, if_neg q1, if_neg q2, show (3 : Int32) + nI S = nI (3 + S) from nI_add 3 S, if_pos (nI_le (by omega) (by omega)), if_neg (fun q => by have := (nI_z (by omega)).mp q; omega), g1, if_pos (show nI m < (32 : Int32) by rw [lt_i, nI_toInt (by omega)]; show _ < (32 : Int); omega), g2, hr]
theorem rg0 {ρ : St} {k a n x : Nat} {S : Int32} {T : Nat → Int32} (t : TA ρ k a n T) (h : x < n) : D_X3_riderGoesOn ρ (14 + k) (nI (a + x)) (nI 0) S = some (if T x = 59 then 1 else 0) := by
  unfold D_X3_riderGoesOn
  rw [t.at h, Option.bind_some, if_pos z0]
  split <;> rfl
theorem rg1 {ρ : St} {k a n x : Nat} {S : Int32} {T : Nat → Int32} (t : TA ρ k a n T) (h : x < n) : D_X3_riderGoesOn ρ (14 + k) (nI (a + x)) (nI 1) S = some (if T x = 114 ∨ T x = 108 ∨ T x = 101 then 1 else 0) := by
  unfold D_X3_riderGoesOn D_X3_kindOf
  rw [t.at h, Option.bind_some, if_neg (by decide), if_pos z1]
  by_cases c1 : T x = 101
  · rw [if_pos c1, if_pos (Or.inr (Or.inr c1))]; rfl
  · rw [if_neg c1]
    by_cases c2 : T x = 108
    · rw [if_pos c2, if_pos (Or.inr (Or.inl c2))]; rfl
    · rw [if_neg c2]
      by_cases c3 : T x = 114
      · rw [if_pos c3, if_pos (Or.inl c3)]; rfl
      · rw [if_neg c3, if_neg (by rintro (q | q | q) <;> contradiction)]; rfl
theorem rg2 {ρ : St} {k a n x S : Nat} {T : Nat → Int32} (t : TA ρ k a n T) (h : x < n) (h1 : 1 ≤ S) (h5 : S ≤ 5) : D_X3_riderGoesOn ρ (14 + k) (nI (a + x)) (nI 2) (nI S) = some (if DG (T x) 0 (S - 1) then 1 else 0) := by
  unfold D_X3_riderGoesOn
  have e : nI S - 1 = nI (S - 1) := by
    obtain ⟨s, rfl⟩ : ∃ s, S = s + 1 := ⟨S - 1, by omega⟩
    rw [nI_succ, Int32.add_sub_cancel, Nat.add_sub_cancel]
  rw [t.at h, Option.bind_some, if_neg (by decide), if_neg (by decide), if_pos z2, e, show D_X3_isDigit ρ (T x) 0 (nI (S - 1)) = _ from isD_eq ρ (T x) (lo := 0) (hi := S - 1) (by decide) (by omega), Option.bind_some, isB_if, gd_true]
theorem rg3 {ρ : St} {k a n x S v : Nat} {T : Nat → Int32} (t : TA ρ k a n T) (h : x + 1 < n) (h5 : S ≤ 5) (hv : v ≤ 9) (e : T x = nI (48 + v)) : D_X3_riderGoesOn ρ (14 + k) (nI (a + (x + 1))) (nI 3) (nI S) = some (if DG (T (x + 1)) (v + 1) S then 1 else 0) := by
  unfold D_X3_riderGoesOn D_X3_digit
  rw [t.at h, Option.bind_some, if_neg (by decide), if_neg (by decide), if_neg (by decide), if_pos z3, show nI (a + (x + 1)) - 1 = nI (a + x) by rw [← Nat.add_assoc, nI_succ, Int32.add_sub_cancel], t.at (show x < n by omega), Option.bind_some, Option.bind_some, e, s48, ← nI_succ, isD_eq ρ (T (x + 1)) (by omega) (by omega), Option.bind_some, isB_if, gd_true]
theorem rg4 {ρ : St} {k a n x : Nat} {S : Int32} {T : Nat → Int32} (t : TA ρ k a n T) (h : x < n) : D_X3_riderGoesOn ρ (14 + k) (nI (a + x)) (nI 4) S = some (if DG (T x) 0 7 then 1 else 0) := by
  unfold D_X3_riderGoesOn
  rw [t.at h, Option.bind_some, if_neg (by decide), if_neg (by decide), if_neg (by decide), if_neg (by decide), if_pos z4, show D_X3_isDigit ρ (T x) 0 7 = _ from isD_eq ρ (T x) (lo := 0) (hi := 7) (by decide) (by decide), Option.bind_some, isB_if, gd_true]
theorem rg5 {ρ : St} {k a n x r : Nat} {S : Int32} {T : Nat → Int32} (t : TA ρ k a n T) (h : x < n) (hr : 5 ≤ r) (hr2 : r < 8) : D_X3_riderGoesOn ρ (14 + k) (nI (a + x)) (nI r) S = some (if DG (T x) 0 9 then 1 else 0) := by
  obtain ⟨q0, q1, q2⟩ := x012 (x := r) (by omega) (by omega)
  unfold D_X3_riderGoesOn
  rw [t.at h, Option.bind_some, if_neg q0, if_neg q1, if_neg q2, if_neg (fun q => by have := (nI_eq (a := r) (b := 3) (by omega) (by decide)).mp q; omega), if_neg (fun q => by have := (nI_eq (a := r) (b := 4) (by omega) (by decide)).mp q; omega), show D_X3_isDigit ρ (T x) 0 9 = _ from isD_eq ρ (T x) (lo := 0) (hi := 9) (by decide) (by decide), Option.bind_some, isB_if, gd_true]
/-- the sections told -/
theorem st_loop {ρ : St} {k a n : Nat} {T : Nat → Int32} (t : TA ρ k a n T) : ∀ d j fuel, j + d = 5 → d < fuel → (∀ i, i < j → 3 + i < n ∧ DG (T (3 + i)) 0 3 = true) → ∃ S, S ≤ 5 ∧ D_X3_sectionsTold_2 ρ (14 + k) (nI a) (nI n) fuel (nI j) = some (nI S) ∧ (∀ i, i < S → 3 + i < n ∧ DG (T (3 + i)) 0 3 = true) ∧ (S = 5 ∨ n ≤ 3 + S ∨ DG (T (3 + S)) 0 3 = false) := by
  have hn := t.le
  intro d
  induction d with
  | zero =>
    intro j fuel hj hf h
    obtain ⟨f, rfl⟩ : ∃ f, fuel = f + 1 := ⟨fuel - 1, by omega⟩
    have : j = 5 := by omega
    subst this
    exact ⟨5, by decide, rfl, h, Or.inl rfl⟩
  | succ d ih =>
    intro j fuel hj hf h
    obtain ⟨f, rfl⟩ : ∃ f, fuel = f + 1 := ⟨fuel - 1, by omega⟩
    have q5 : ¬ (5 : Int32) ≤ nI j := nI_ge (b := 5) (by omega) (by decide)
    by_cases hx : n ≤ 3 + j
    · refine ⟨j, by omega, ?_, h, Or.inr (Or.inl hx)⟩
      show D_X3_sectionsTold_2b _ _ _ _ _ _ = _
      unfold D_X3_sectionsTold_2b
      rw [if_neg q5, show (3 : Int32) + nI j = nI (3 + j) from nI_add 3 j, if_pos (nI_le hx (by omega))]
    · have base : D_X3_sectionsTold_2 ρ (14 + k) (nI a) (nI n) (f + 1) (nI j) = if (if DG (T (3 + j)) 0 3 then (1 : Int32) else 0) = 0 then some (nI j) else D_X3_sectionsTold_2 ρ (14 + k) (nI a) (nI n) f (nI (j + 1)) := by
        show D_X3_sectionsTold_2b _ _ _ _ _ _ = _
        unfold D_X3_sectionsTold_2b
        rw [if_neg q5, show (3 : Int32) + nI j = nI (3 + j) from nI_add 3 j, if_neg (nI_ge (by omega) (by omega)), show nI a + (3 : Int32) + nI j = nI (a + (3 + j)) by rw [← Nat.add_assoc, ← nI_add, ← nI_add]; rfl, t.at (by omega), Option.bind_some, show D_X3_isDigit ρ (T (3 + j)) 0 3 = _ from isD_eq ρ (T (3 + j)) (lo := 0) (hi := 3) (by decide) (by decide), Option.bind_some, nI_succ]
      cases hb : DG (T (3 + j)) 0 3
      · refine ⟨j, by omega, ?_, h, Or.inr (Or.inr hb)⟩
        rw [base, hb]; rfl
      · obtain ⟨S, s1, s2, s3, s4⟩ := ih (j + 1) f (by omega) (by omega) (fun i hi => by
          by_cases e : i = j
          · rw [e]; exact ⟨by omega, hb⟩
          · exact h i (by omega))
        refine ⟨S, s1, ?_, s3, s4⟩
        rw [base, hb, if_pos rfl, if_neg i10]; exact s2
theorem st_eq {ρ : St} {k a n : Nat} {T : Nat → Int32} (t : TA ρ k a n T) : ∃ S, S ≤ 5 ∧ D_X3_sectionsTold ρ (14 + k) (nI a) (nI n) = some (nI S) ∧ (∀ i, i < S → 3 + i < n ∧ DG (T (3 + i)) 0 3 = true) ∧ (S = 5 ∨ n ≤ 3 + S ∨ DG (T (3 + S)) 0 3 = false) :=
  st_loop t 5 0 FU rfl (FU_lt (by decide)) (fun i hi => absurd hi (Nat.not_lt_zero i))
/-- the model's text, and its reading place -/
def TM (st : St) (B n : Nat) (T : Nat → Int32) : Prop := B + n ≤ 240 ∧ n ≤ 60 ∧ ∀ x, x < n → st 20 (B + x) = T x
theorem co_y {st : St} {B n x : Nat} {T : Nat → Int32} (t : TM st B n T) (e : st 0 10 = nI x) (h : x < n) : D_X7_codeAt st (nI B) (nI n) = some (T x) := by
  obtain ⟨t1, t2, t3⟩ := t
  unfold D_X7_codeAt
  rw [e, if_neg (nI_ge h (by omega)), nI_add, inb_nI (show B + x < 240 by omega) (by decide), gd_true, nI_clamp (by omega), t3 x h]
theorem co_n {st : St} {B n x : Nat} {T : Nat → Int32} (t : TM st B n T) (e : st 0 10 = nI x) (h : x = n) : D_X7_codeAt st (nI B) (nI n) = some (-9) := by
  obtain ⟨t1, t2, t3⟩ := t
  unfold D_X7_codeAt
  rw [e, h, if_pos (nI_le (Nat.le_refl _) (by omega))]
def Fr (st st' : St) : Prop := (∀ c, c ≠ 0 → st' c = st c) ∧ ∀ j, j ≠ 10 → st' 0 j = st 0 j
theorem Fr.up (st : St) (v : Int32) : Fr st (up2 st 0 10 v) := ⟨fun c hc => up2_ne c hc, fun j hj => up2_j hj⟩
theorem Fr.tr {a b c : St} (h : Fr a b) (g : Fr b c) : Fr a c := ⟨fun x hx => (g.1 x hx).trans (h.1 x hx), fun x hx => (g.2 x hx).trans (h.2 x hx)⟩
theorem TM.fr {st st' : St} {B n : Nat} {T : Nat → Int32} (t : TM st B n T) (f : Fr st st') : TM st' B n T := by
  obtain ⟨t1, t2, t3⟩ := t
  exact ⟨t1, t2, by rw [f.1 20 (by decide)]; exact t3⟩
def Bad (C : Nat → Option Int32) (n : Nat) (st : St) (x : Nat) : Prop := ∃ y, y ≤ n ∧ st 0 10 = nI y ∧ C x = some (nI y)
theorem fig_y {st : St} {B n x lo hi : Nat} {T : Nat → Int32} (t : TM st B n T) (e : st 0 10 = nI x) (hl : lo ≤ 100) (hh : hi ≤ 100) (h : x < n) (g : DG (T x) lo hi = true) : D_X7_figure st (nI B) (nI n) (nI lo) (nI hi) = some (T x - 48, up2 st 0 10 (nI (x + 1))) := by
  obtain ⟨v, v1, v2, v3⟩ := DG_nat hh g
  unfold D_X7_figure
  rw [co_y t e h, Option.bind_some, v3, s48, in_y rfl rfl (nI_le v1 (by omega)) (nI_le v2 (by omega)), Option.bind_some, if_neg i10]
  unfold D_X7_figure_39
  rw [if_neg i10, e, nI_succ]
theorem fig_n {st : St} {B n x lo hi : Nat} {T : Nat → Int32} (t : TM st B n T) (e : st 0 10 = nI x) (hl : lo ≤ 100) (hh : hi ≤ 100) (hx : x ≤ n) (g : x < n → DG (T x) lo hi = false) : D_X7_figure st (nI B) (nI n) (nI lo) (nI hi) = some (-9, up2 st 0 10 (nI x)) := by
  unfold D_X7_figure
  by_cases h : x < n
  · rw [co_y t e h, Option.bind_some, in_n rfl rfl (DG_out hl hh (g h)), Option.bind_some, if_pos rfl]
    unfold D_X7_figure_39
    rw [if_pos rfl, e, Int32.add_zero]
  · rw [co_n t e (by omega), Option.bind_some, in_n rfl rfl (Or.inl (by rw [lt_i, nI_toInt (by omega)]; show (-57 : Int) < _; omega)), Option.bind_some, if_pos rfl]
    unfold D_X7_figure_39
    rw [if_pos rfl, e, Int32.add_zero]
end PR
