/-! sets of sections: counting, WAY, ODDS -/
def σ00 : St := fun _ _ => 0
def pcN (n : Nat) : Nat := n % 2 + n / 2 % 2 + n / 4 % 2 + n / 8 % 2 + n / 16 % 2
theorem bc_fin : ∀ n : Fin 32, D_J6_bitCount_0f7a4 σ00 (nI n.val) = some (nI (pcN n.val)) := by decide +kernel
theorem bc_eq (ρ : St) {n : Nat} (h : n < 32) : D_J6_bitCount_0f7a4 ρ (nI n) = some (nI (pcN n)) := bc_fin ⟨n, h⟩
theorem bi_any (ρ : St) : ∀ n a b, D_X7_bits_4 ρ n a b = D_X7_bits_4 σ00 n a b := by
  intro n
  induction n with
  | zero => intro a b; rfl
  | succ n ih =>
    intro a b
    show D_X7_bits_4b ρ (D_X7_bits_4 ρ n) a b = D_X7_bits_4b σ00 (D_X7_bits_4 σ00 n) a b
    unfold D_X7_bits_4b
    rw [ih]
theorem bi_fin : ∀ n : Fin 32, D_X7_bits_4 σ00 FU 0 (nI n.val) = some (nI (pcN n.val)) := by decide +kernel
theorem bi_eq (ρ : St) {n : Nat} (h : n < 32) : D_X7_bits ρ (nI n) = some (nI (pcN n)) := (bi_any ρ _ _ _).trans (bi_fin ⟨n, h⟩)
theorem pcN_le {n : Nat} : pcN n ≤ 5 := by unfold pcN; omega
/-- the cheapest of those below n for which P holds; of several the least -/
def WY (P : Nat → Bool) (c : Nat → Nat) : Nat → Option Nat
  | 0 => none
  | n + 1 => if P n then (match WY P c n with | none => some n | some b => if c n < c b then some n else some b) else WY P c n
theorem WY_s (P : Nat → Bool) (c : Nat → Nat) (n : Nat) : WY P c (n + 1) = if P n then (match WY P c n with | none => some n | some b => if c n < c b then some n else some b) else WY P c n := rfl
theorem WY_lt {P : Nat → Bool} {c : Nat → Nat} : ∀ {n b}, WY P c n = some b → b < n ∧ P b = true := by
  intro n
  induction n with
  | zero => intro b h; cases h
  | succ n ih =>
    intro b h
    rw [WY_s] at h
    cases hp : P n
    · rw [hp] at h
      have := ih (b := b) (by simpa using h)
      exact ⟨by omega, this.2⟩
    · rw [hp] at h
      simp only [if_true] at h
      cases hw : WY P c n with
      | none =>
        rw [hw] at h
        cases h
        exact ⟨by omega, hp⟩
      | some d =>
        rw [hw] at h
        by_cases hc : c n < c d
        · simp only [hc, if_true] at h
          cases h
          exact ⟨by omega, hp⟩
        · simp only [hc, if_false] at h
          cases h
          have := ih hw
          exact ⟨by omega, this.2⟩
theorem WY_none {P : Nat → Bool} {c : Nat → Nat} : ∀ {n}, WY P c n = none ↔ ∀ m, m < n → P m = false := by
  intro n
  induction n with
  | zero => exact ⟨fun _ m hm => absurd hm (Nat.not_lt_zero m), fun _ => rfl⟩
  | succ n ih =>
    rw [WY_s]
    cases hp : P n
    · simp only [Bool.false_eq_true, if_false]
      rw [ih]
      constructor
      · intro h m hm
        by_cases e : m = n
        · rw [e]; exact hp
        · exact h m (by omega)
      · intro h m hm
        exact h m (by omega)
    · simp only [if_true]
      constructor
      · intro h
        cases hw : WY P c n with
        | none => rw [hw] at h; cases h
        | some d =>
          rw [hw] at h
          by_cases hc : c n < c d
          · simp [hc] at h
          · simp [hc] at h
      · intro h
        have := h n (by omega)
        rw [hp] at this; cases this
theorem WY_stop {P : Nat → Bool} {c : Nat → Nat} {m : Nat} : ∀ k, (∀ n, m ≤ n → n < m + k → P n = false) → WY P c (m + k) = WY P c m := by
  intro k
  induction k with
  | zero => intro _; rfl
  | succ k ih =>
    intro h
    rw [← Nat.add_assoc, WY_s, h (m + k) (by omega) (by omega)]
    simp only [Bool.false_eq_true, if_false]
    exact ih fun n h1 h2 => h n h1 (by omega)
def enc (x : Option Nat) : Int32 := match x with
  | none => -9
  | some n => nI n
section P6
variable {σ τ : St}
/-- alone one may sit so -/
def MS (σ : St) (a n : Nat) : Bool := ow (OW σ a) (nI n) && (decide (n = 0) || decide (0 < nSea σ))
theorem nI_z {n : Nat} (h : n < 2 ^ 31) : nI n = 0 ↔ n = 0 := by rw [← nI_0]; exact nI_eq h (by decide)
theorem csa_eq (h : Rel σ τ) (a : Nat) {n : Nat} (hn : n < 32) : D_X2_canSitAlone σ (5 + a) (nI n) = some (if MS σ a n then 1 else 0) := by
  have h3 := h.sea3
  unfold D_X2_canSitAlone MS
  rw [ons_eq, Option.bind_some, h.sea]
  cases ow (OW σ a) (nI n)
  · rfl
  · simp only [if_true, i10, if_false, Bool.true_and, nI_z (show n < 2 ^ 31 by omega)]
    by_cases h0 : n = 0
    · simp [h0]
    · simp only [h0, if_false, decide_false, Bool.false_or]
      by_cases hs : 0 < nSea σ
      · rw [if_neg (nI_nle hs (by omega))]; simp [hs]
      · have : nSea σ = 0 := by omega
        rw [this]; rfl
theorem may_eq (h : Rel σ τ) {a : Nat} (ha : a < nRid σ) {n : Nat} (hn : n < 32) : D_X7_maySit τ (nI a) (nI n) = some (if MS σ a n then 1 else 0) := by
  have h3 := h.sea3
  unfold D_X7_maySit MS
  rw [nso_eq h ha, Option.bind_some, h.msea]
  cases ow (OW σ a) (nI n)
  · rfl
  · simp only [if_true, Bool.true_and, nI_z (show n < 2 ^ 31 by omega)]
    by_cases hs : 0 < nSea σ
    · have : (0 : Int32) < nI (nSea σ) := nI_lt (a := 0) hs (by omega)
      rw [if_pos this]; simp [hs]
    · have e : nSea σ = 0 := by omega
      rw [e, if_neg (by decide)]
      by_cases h0 : n = 0 <;> simp [h0]
theorem MS_own (h : Rel σ τ) {a : Nat} (ha : a < nRid σ) {w : Nat} (hw : w < 32) (ew : OW σ a = nI w) {n : Nat} (hn : n < 32) (hwn : w < n) : ow (OW σ a) (nI n) = false := by
  cases hb : ow (OW σ a) (nI n)
  · rfl
  · rw [ew] at hb
    obtain ⟨m, hm, e⟩ := ow_le (by omega) hb
    have := (nI_eq (by omega) (by omega)).mp e
    omega
def PW (σ : St) (a : Nat) (v : Int32) (n : Nat) : Bool := MS σ a n && decide (AG σ a (nI n) = v)
theorem PW_own (h : Rel σ τ) {a : Nat} (ha : a < nRid σ) {w : Nat} (hw : w < 32) (ew : OW σ a = nI w) (v : Int32) {n : Nat} (hn : n < 32) (hwn : w < n) : PW σ a v n = false := by
  unfold PW MS
  rw [MS_own h ha hw ew hn hwn]; rfl
theorem own_lt {w n : Nat} (hw : w < 32) (hn : n < 34) : nI w < nI n ↔ w < n := nI_ltI (by omega) (by omega)
theorem wy_c (h : Rel σ τ) {a : Nat} (ha : a < nRid σ) {w : Nat} (hw : w < 32) (ew : OW σ a = nI w) (v : Int32) : ∀ d n fuel, n + d = w + 1 → d < fuel → D_X6_way_43 σ v (5 + a) fuel (enc (WY (PW σ a v) pcN n)) (nI n) = some (enc (WY (PW σ a v) pcN (w + 1))) := by
  intro d
  induction d with
  | zero =>
    intro n fuel hn hf
    obtain ⟨k, rfl⟩ : ∃ k, fuel = k + 1 := ⟨fuel - 1, by omega⟩
    have : n = w + 1 := by omega
    subst this
    show D_X6_way_43b _ _ _ _ _ _ = _
    unfold D_X6_way_43b
    rw [own_eq, Option.bind_some]
    show (if OW σ a < _ then _ else _) = _
    rw [ew, if_pos ((own_lt hw (by omega)).mpr (by omega))]
  | succ d ih =>
    intro n fuel hn hf
    obtain ⟨k, rfl⟩ : ∃ k, fuel = k + 1 := ⟨fuel - 1, by omega⟩
    have e := ih (n + 1) k (by omega) (by omega)
    rw [nI_succ, WY_s] at e
    show D_X6_way_43b _ _ _ _ _ _ = _
    unfold D_X6_way_43b D_X6_way_99 D_X6_way_103
    rw [own_eq, Option.bind_some]
    show (if OW σ a < _ then _ else _) = _
    rw [ew, if_neg (fun q => by have := (own_lt hw (by omega)).mp q; omega), csa_eq h a (by omega), Option.bind_some, yo_eq h, Option.bind_some]
    cases hm : MS σ a n
    · simp only [PW, hm, Bool.false_and, Bool.false_eq_true, if_false] at e
      simpa using e
    · by_cases hv : AG σ a (nI n) = v
      · simp only [PW, hm, hv, decide_true, Bool.true_and, if_true] at e
        simp only [if_true, i10, if_false, hv]
        cases hb : WY (PW σ a v) pcN n with
        | none =>
          rw [hb] at e
          simpa [enc] using e
        | some b =>
          have hbn := (WY_lt hb).1
          rw [hb] at e
          have p1 := pcN_le (n := n)
          have p2 := pcN_le (n := b)
          have q : ¬ nI b = -9 := by
            intro q; rw [eq_i, nI_toInt (by omega)] at q
            have : (-9 : Int32).toInt = -9 := by decide
            omega
          simp only [enc, q, if_false, bc_eq σ (show n < 32 by omega), bc_eq σ (show b < 32 by omega), Option.bind_some]
          by_cases hc : pcN n < pcN b
          · rw [if_neg (nI_ge hc (by omega))]
            simpa [enc, hc] using e
          · rw [if_pos (nI_le (by omega) (by omega))]
            simpa [enc, hc] using e
      · simp only [PW, hm, hv, decide_false, Bool.and_false, Bool.false_eq_true, if_false] at e
        simp only [if_true, i10, if_false, hv]
        exact e
theorem wy_m (h : Rel σ τ) {a : Nat} (ha : a < nRid σ) (v : Int32) : ∀ d n fuel, n + d = 32 → d < fuel → D_X7_way_31 τ (nI a) v fuel (enc (WY (PW σ a v) pcN n)) (nI n) = some (enc (WY (PW σ a v) pcN 32)) := by
  intro d
  induction d with
  | zero =>
    intro n fuel hn hf
    obtain ⟨k, rfl⟩ : ∃ k, fuel = k + 1 := ⟨fuel - 1, by omega⟩
    have : n = 32 := by omega
    subst this
    show D_X7_way_31b _ _ _ _ _ _ = _
    unfold D_X7_way_31b
    rw [if_pos (by decide)]
  | succ d ih =>
    intro n fuel hn hf
    obtain ⟨k, rfl⟩ : ∃ k, fuel = k + 1 := ⟨fuel - 1, by omega⟩
    have e := ih (n + 1) k (by omega) (by omega)
    rw [nI_succ, WY_s] at e
    show D_X7_way_31b _ _ _ _ _ _ = _
    unfold D_X7_way_31b D_X7_way_63 D_X7_way_64 D_X7_way_92 D_X7_way_87 D_X7_way_93
    have q0 : ¬ (32 : Int32) ≤ nI n := nI_ge (b := 32) (by omega) (by decide)
    rw [if_neg q0, may_eq h ha (by omega), Option.bind_some, ab_eq h ha, Option.bind_some]
    cases hm : MS σ a n
    · simp only [PW, hm, Bool.false_and, Bool.false_eq_true, if_false] at e
      simpa using e
    · by_cases hv : AG σ a (nI n) = v
      · simp only [PW, hm, hv, decide_true, Bool.true_and, if_true] at e
        simp only [if_true, i10, if_false, hv]
        cases hb : WY (PW σ a v) pcN n with
        | none =>
          rw [hb] at e
          rw [if_pos (show enc none < 0 by decide)]
          exact e
        | some b =>
          have hbn := (WY_lt hb).1
          rw [hb] at e
          have p1 := pcN_le (n := n)
          have p2 := pcN_le (n := b)
          have q : ¬ nI b < 0 := nI_pos (by omega)
          simp only [enc, q, if_false, bi_eq τ (show n < 32 by omega), bi_eq τ (show b < 32 by omega), Option.bind_some]
          by_cases hc : pcN n < pcN b
          · rw [if_neg (nI_ge hc (by omega))]
            simpa [enc, hc] using e
          · rw [if_pos (nI_le (by omega) (by omega))]
            simpa [enc, hc] using e
      · simp only [PW, hm, hv, decide_false, Bool.and_false, Bool.false_eq_true, if_false] at e
        simp only [if_true, i10, if_false, hv]
        exact e
theorem way_m (h : Rel σ τ) {a : Nat} (ha : a < nRid σ) {v : Nat} (hv : v ≤ 199) : D_X7_way τ (nI a) (nI v) = some (enc (WY (PW σ a (nI v)) pcN 32)) := by
  have e2 : D_X7_in τ (nI v).toInt64 0 199 = some 1 := inj_y hv (by decide) rfl
  unfold D_X7_way
  rw [noR_y h ha, Option.bind_some, if_pos rfl, e2, Option.bind_some, if_neg i10]
  exact wy_m h ha (nI v) 32 0 FU rfl (FU_lt (by decide))
theorem pf_way (h : Rel σ τ) (x y : Int32) : E1 (D_X6_way σ x y) (D_X7_way τ x y) := by
  rcases ridc h x with hn | ⟨a, ha, rfl⟩
  · exact ⟨-1, by simp [D_X6_way, hasR_n h hn], by simp [D_X7_way, noR_n h hn, i10]⟩
  · rcases wic y 199 (by decide) with hn | ⟨v, hv, rfl⟩
    · have e1 : D_X6_within σ y 199 = some 0 := wi_n hn
      have e2 : D_X7_in τ y.toInt64 0 199 = some 0 := inj_n hn rfl
      exact ⟨-2, by simp [D_X6_way, hasR_y h ha, i10, e1], by simp [D_X7_way, noR_y h ha, e2]⟩
    · have e1 : D_X6_within σ (nI v) 199 = some 1 := wj_y (n := 199) hv (by decide)
      obtain ⟨w, hw, ew⟩ := OW_eq h ha
      refine ⟨enc (WY (PW σ a (nI v)) pcN 32), ?_, way_m h ha hv⟩
      unfold D_X6_way
      rw [hasR_y h ha, Option.bind_some, if_neg i10, e1, Option.bind_some, if_neg i10, ri4 h ha, gd_true, rcl h ha]
      have := wy_c h ha hw ew (nI v) (w + 1) 0 FU (by omega) (FU_lt (by omega))
      rw [← WY_stop (m := w + 1) (31 - w) (fun n h1 h2 => PW_own h ha hw ew (nI v) (by omega) (by omega)), show w + 1 + (31 - w) = 32 by omega] at this
      exact this
/-- owned sets below n, and those of them by which one is v years old at least -/
def ODl (σ : St) (a : Nat) : Nat → Nat
  | 0 => 0
  | n + 1 => if ow (OW σ a) (nI n) then ODl σ a n + 1 else ODl σ a n
def ODu (σ : St) (a : Nat) (v : Int32) : Nat → Nat
  | 0 => 0
  | n + 1 => if ow (OW σ a) (nI n) && !decide (AG σ a (nI n) < v) then ODu σ a v n + 1 else ODu σ a v n
theorem ODl_s (σ : St) (a n : Nat) : ODl σ a (n + 1) = if ow (OW σ a) (nI n) then ODl σ a n + 1 else ODl σ a n := rfl
theorem ODu_s (σ : St) (a : Nat) (v : Int32) (n : Nat) : ODu σ a v (n + 1) = if ow (OW σ a) (nI n) && !decide (AG σ a (nI n) < v) then ODu σ a v n + 1 else ODu σ a v n := rfl
theorem OD_le (σ : St) (a : Nat) (v : Int32) : ∀ n, ODu σ a v n ≤ ODl σ a n ∧ ODl σ a n ≤ n := by
  intro n
  induction n with
  | zero => exact ⟨Nat.le_refl _, Nat.le_refl _⟩
  | succ n ih =>
    rw [ODl_s, ODu_s]
    cases ow (OW σ a) (nI n)
    · simp only [Bool.false_and, Bool.false_eq_true, if_false]; omega
    · cases decide (AG σ a (nI n) < v)
      · simp; omega
      · simp; omega
def cntO (w : Nat) : Nat → Nat
  | 0 => 0
  | n + 1 => if ow (nI w) (nI n) then cntO w n + 1 else cntO w n
theorem cntO_fin : ∀ o f : Fin 6, o < f → (cntO (2 ^ f.val - 2 ^ o.val) 32 = 2 ∨ cntO (2 ^ f.val - 2 ^ o.val) 32 = 4 ∨ cntO (2 ^ f.val - 2 ^ o.val) 32 = 8 ∨ cntO (2 ^ f.val - 2 ^ o.val) 32 = 16 ∨ cntO (2 ^ f.val - 2 ^ o.val) 32 = 32) := by decide +kernel
theorem ODl_cnt {a w : Nat} (e : OW σ a = nI w) : ∀ n, ODl σ a n = cntO w n := by
  intro n
  induction n with
  | zero => rfl
  | succ n ih => rw [ODl_s, ih, e]; rfl
theorem ODl_32 (h : Rel σ τ) {a : Nat} (ha : a < nRid σ) : ODl σ a 32 = 2 ∨ ODl σ a 32 = 4 ∨ ODl σ a 32 = 8 ∨ ODl σ a 32 = 16 ∨ ODl σ a 32 = 32 := by
  obtain ⟨-, -, -, -, -, -, ⟨o, f, h1, h2, e1, e2⟩, -⟩ := h.rdr a ha
  have h5 := h.sec5
  have e : OW σ a = nI (2 ^ f - 2 ^ o) := by
    unfold OW
    rw [e1, e2]
    exact (ow_fin ⟨o, by omega⟩ ⟨f, by omega⟩ h1).1
  rw [ODl_cnt e]
  exact cntO_fin ⟨o, by omega⟩ ⟨f, by omega⟩ h1
theorem OD_stop (h : Rel σ τ) {a : Nat} (ha : a < nRid σ) {w : Nat} (hw : w < 32) (ew : OW σ a = nI w) (v : Int32) : ∀ k, w + 1 + k ≤ 32 → ODl σ a (w + 1 + k) = ODl σ a (w + 1) ∧ ODu σ a v (w + 1 + k) = ODu σ a v (w + 1) := by
  intro k
  induction k with
  | zero => intro _; exact ⟨rfl, rfl⟩
  | succ k ih =>
    intro hk
    have e := MS_own h ha hw ew (n := w + 1 + k) (by omega) (by omega)
    rw [← Nat.add_assoc, ODl_s, ODu_s, e]
    exact ih (by omega)
theorem od_c (h : Rel σ τ) {a : Nat} (ha : a < nRid σ) {w : Nat} (hw : w < 32) (ew : OW σ a = nI w) (v u : Int32) : ∀ d n fuel, n + d = w + 1 → d < fuel → D_X6_odds_53 σ v u (5 + a) fuel (nI (ODu σ a v n)) (nI (ODl σ a n)) (nI n) = D_X6_odds_107 σ u (nI (ODu σ a v (w + 1))) (nI (ODl σ a (w + 1))) := by
  intro d
  induction d with
  | zero =>
    intro n fuel hn hf
    obtain ⟨k, rfl⟩ : ∃ k, fuel = k + 1 := ⟨fuel - 1, by omega⟩
    have : n = w + 1 := by omega
    subst this
    show D_X6_odds_53b _ _ _ _ _ _ _ _ = _
    unfold D_X6_odds_53b
    rw [own_eq, Option.bind_some]
    show (if OW σ a < _ then _ else _) = _
    rw [ew, if_pos ((own_lt hw (by omega)).mpr (by omega))]
  | succ d ih =>
    intro n fuel hn hf
    obtain ⟨k, rfl⟩ : ∃ k, fuel = k + 1 := ⟨fuel - 1, by omega⟩
    have e := ih (n + 1) k (by omega) (by omega)
    rw [nI_succ, ODu_s, ODl_s] at e
    show D_X6_odds_53b _ _ _ _ _ _ _ _ = _
    unfold D_X6_odds_53b D_X6_odds_98 D_X6_odds_101
    rw [own_eq, Option.bind_some]
    show (if OW σ a < _ then _ else _) = _
    rw [ew, if_neg (fun q => by have := (own_lt hw (by omega)).mp q; omega), ons_eq, Option.bind_some, yo_eq h, Option.bind_some]
    cases hm : ow (OW σ a) (nI n)
    · simp only [hm, Bool.false_and, Bool.false_eq_true, if_false] at e
      simpa using e
    · by_cases hv : AG σ a (nI n) < v
      · simp only [hm, hv, decide_true, Bool.not_true, Bool.and_false, Bool.false_eq_true, if_false, if_true, nI_succ] at e
        simp only [if_true, i10, if_false, hv, Int32.add_zero]
        exact e
      · simp only [hm, hv, decide_false, Bool.not_false, Bool.and_true, if_true, nI_succ] at e
        simp only [if_true, i10, if_false, hv]
        exact e
theorem lN_s (n : Nat) : lN (n + 1) = lN n + 1 := (lN_1 n).symm
theorem od_m (h : Rel σ τ) {a : Nat} (ha : a < nRid σ) (v u : Int32) : ∀ d n fuel, n + d = 32 → d < fuel → D_X7_odds_43 τ (nI a) v u fuel (lN (ODu σ a v n)) (lN (ODl σ a n)) (nI n) = D_X7_odds_114 τ u (lN (ODu σ a v 32)) (lN (ODl σ a 32)) := by
  intro d
  induction d with
  | zero =>
    intro n fuel hn hf
    obtain ⟨k, rfl⟩ : ∃ k, fuel = k + 1 := ⟨fuel - 1, by omega⟩
    have : n = 32 := by omega
    subst this
    show D_X7_odds_43b _ _ _ _ _ _ _ _ = _
    unfold D_X7_odds_43b
    rw [if_pos (by decide)]
  | succ d ih =>
    intro n fuel hn hf
    obtain ⟨k, rfl⟩ : ∃ k, fuel = k + 1 := ⟨fuel - 1, by omega⟩
    have e := ih (n + 1) k (by omega) (by omega)
    rw [nI_succ, ODu_s, ODl_s] at e
    show D_X7_odds_43b _ _ _ _ _ _ _ _ = _
    unfold D_X7_odds_43b D_X7_odds_65 D_X7_odds_79 D_X7_odds_104 D_X7_odds_105
    have q0 : ¬ (32 : Int32) ≤ nI n := nI_ge (b := 32) (by omega) (by decide)
    rw [if_neg q0, nso_eq h ha, Option.bind_some, ab_eq h ha, Option.bind_some]
    cases hm : ow (OW σ a) (nI n)
    · simp only [hm, Bool.false_and, Bool.false_eq_true, if_false] at e
      simpa [i10] using e
    · by_cases hv : AG σ a (nI n) < v
      · simp only [hm, hv, decide_true, Bool.not_true, Bool.and_false, Bool.false_eq_true, if_false, if_true, lN_s] at e
        simp only [if_true, i10, if_false, Option.bind_some, hv, Int64.add_zero]
        exact e
      · simp only [hm, hv, decide_false, Bool.not_false, Bool.and_true, if_true, lN_s] at e
        simp only [if_true, i10, if_false, Option.bind_some, hv]
        exact e
theorem oh_any (ρ : St) (u : Int32) : ∀ n a b c, D_X6_odds_110 ρ u n a b c = D_X6_odds_110 σ00 u n a b c := by
  intro n
  induction n with
  | zero => intro a b c; rfl
  | succ n ih =>
    intro a b c
    show D_X6_odds_110b ρ (D_X6_odds_110 ρ u n) u a b c = D_X6_odds_110b σ00 (D_X6_odds_110 σ00 u n) u a b c
    unfold D_X6_odds_110b
    rw [ih]; rfl
theorem sh_any (ρ : St) (a b : Int64) (u : Int32) : ∀ n x y, D_X7_share_6 ρ a b u n x y = D_X7_share_6 σ00 a b u n x y := by
  intro n
  induction n with
  | zero => intro x y; rfl
  | succ n ih =>
    intro x y
    show D_X7_share_6b ρ (D_X7_share_6 ρ a b u n) a b u x y = D_X7_share_6b σ00 (D_X7_share_6 σ00 a b u n) a b u x y
    unfold D_X7_share_6b
    rw [ih]; rfl
def okS (u x y : Nat) : Bool := (D_X6_odds_110 σ00 (nI u) FU (nI x) (nI y) 0).isSome && decide (D_X6_odds_110 σ00 (nI u) FU (nI x) (nI y) 0 = D_X7_share_6 σ00 (lN x) (lN y) (nI u) FU (lN x) (lN y))
theorem ok_fin : ∀ u : Fin 2, ∀ i : Fin 5, ∀ x : Fin 33, x.val ≤ 2 ^ (i.val + 1) → okS u.val x.val (2 ^ (i.val + 1)) = true := by decide +kernel
theorem pf_odds (h : Rel σ τ) (x y z : Int32) : E3 (D_X6_odds σ x y z) (D_X7_odds τ x y z) := by
  rcases ridc h x with hn | ⟨a, ha, rfl⟩
  · exact ⟨-9223372036854775808, by simp [D_X6_odds, hasR_n h hn], by simp [D_X7_odds, noR_n h hn, i10, D_X7_odds_30, D_X7_lost]⟩
  · rcases wic y 199 (by decide) with hn | ⟨v, hv, rfl⟩
    · have e1 : D_X6_within σ y 199 = some 0 := wi_n hn
      have e2 : D_X7_in τ y.toInt64 0 199 = some 0 := inj_n hn rfl
      exact ⟨-9223372036854775808, by simp [D_X6_odds, hasR_y h ha, i10, e1], by simp [D_X7_odds, noR_y h ha, e2, D_X7_odds_30, D_X7_lost]⟩
    · have e1 : D_X6_within σ (nI v) 199 = some 1 := wj_y (n := 199) hv (by decide)
      have e2 : D_X7_in τ (nI v).toInt64 0 199 = some 1 := inj_y hv (by decide) rfl
      rcases wic z 1 (by decide) with hn | ⟨u, hu, rfl⟩
      · have e3 : D_X6_within σ z 1 = some 0 := wi_n hn
        have e4 : D_X7_in τ z.toInt64 0 1 = some 0 := inj_n hn rfl
        exact ⟨-9223372036854775808, by simp [D_X6_odds, hasR_y h ha, i10, e1, e3], by simp [D_X7_odds, noR_y h ha, e2, i10, e4, D_X7_odds_30, D_X7_lost]⟩
      · have e3 : D_X6_within σ (nI u) 1 = some 1 := wj_y (n := 1) hu (by decide)
        have e4 : D_X7_in τ (nI u).toInt64 0 1 = some 1 := inj_y hu (by decide) rfl
        obtain ⟨w, hw, ew⟩ := OW_eq h ha
        have c := od_c h ha hw ew (nI v) (nI u) (w + 1) 0 FU (by omega) (FU_lt (by omega))
        have m := od_m h ha (nI v) (nI u) 32 0 FU rfl (FU_lt (by decide))
        obtain ⟨s1, s2⟩ := OD_stop h ha hw ew (nI v) (31 - w) (by omega)
        rw [show w + 1 + (31 - w) = 32 by omega] at s1 s2
        rw [← s1, ← s2] at c
        have hle := OD_le σ a (nI v) 32
        obtain ⟨i, hi, el⟩ : ∃ i, i < 5 ∧ ODl σ a 32 = 2 ^ (i + 1) := by
          rcases ODl_32 h ha with e | e | e | e | e
          · exact ⟨0, by decide, e⟩
          · exact ⟨1, by decide, e⟩
          · exact ⟨2, by decide, e⟩
          · exact ⟨3, by decide, e⟩
          · exact ⟨4, by decide, e⟩
        have ok := ok_fin ⟨u, by omega⟩ ⟨i, hi⟩ ⟨ODu σ a (nI v) 32, by omega⟩ (by show ODu σ a (nI v) 32 ≤ 2 ^ (i + 1); rw [← el]; exact hle.1)
        unfold okS at ok
        rw [Bool.and_eq_true, decide_eq_true_eq] at ok
        obtain ⟨r, hr⟩ := Option.isSome_iff_exists.mp ok.1
        refine ⟨r, ?_, ?_⟩
        · unfold D_X6_odds
          rw [hasR_y h ha, Option.bind_some, if_neg i10, e1, Option.bind_some, if_neg i10, e3, Option.bind_some, if_neg i10, ri4 h ha, gd_true, rcl h ha]
          refine c.trans ?_
          unfold D_X6_odds_107
          rw [oh_any, el]
          exact hr
        · unfold D_X7_odds
          rw [noR_y h ha, Option.bind_some, if_pos rfl, e2, Option.bind_some, if_neg i10, e4, Option.bind_some, if_neg i10]
          refine m.trans ?_
          unfold D_X7_odds_114 D_X7_share
          rw [sh_any, el, ← ok.2, hr]
          rfl
end P6
