/-! MOST, the model's side -/
def l2p (f : Nat) : Nat → Nat
  | 0 => 0
  | s + 1 => l2p f s + f / 2 ^ s % 2 * 4 ^ s
def l2 (f : Nat) : Nat := f % 2 + 4 * (f / 2 % 2) + 16 * (f / 4 % 2) + 64 * (f / 8 % 2) + 256 * (f / 16 % 2)
def WOp (se W f : Nat) : Nat → Bool
  | 0 => true
  | s + 1 => WOp se W f s && (f / 2 ^ s % 2 == 0 || decide (W / 4 ^ s % 4 < se))
theorem WOp_iff {se W f : Nat} : ∀ {n}, WOp se W f n = true ↔ ∀ s, s < n → f / 2 ^ s % 2 = 0 ∨ W / 4 ^ s % 4 < se := by
  intro n
  induction n with
  | zero => exact ⟨fun _ s hs => absurd hs (Nat.not_lt_zero s), fun _ => rfl⟩
  | succ n ih =>
    simp only [WOp, Bool.and_eq_true, Bool.or_eq_true, beq_iff_eq, decide_eq_true_eq]
    rw [ih]
    constructor
    · rintro ⟨h1, h2⟩ s hs
      by_cases e : s = n
      · rw [e]; exact h2
      · exact h1 s (by omega)
    · intro h
      exact ⟨fun s hs => h s (by omega), h n (by omega)⟩
theorem l2p_fin : ∀ n : Fin 6, ∀ f : Fin 32, f.val < 2 ^ n.val → l2p f.val n.val = l2 f.val := by decide +kernel
theorem l2p_eq {f : Nat} (n : Nat) (hn : n ≤ 5) (hf : f < 2 ^ n) : l2p f n = l2 f := by
  have : 2 ^ n ≤ 2 ^ 5 := Nat.pow_le_pow_right (by decide) hn
  exact l2p_fin ⟨n, by omega⟩ ⟨f, by omega⟩ hf
theorem dig4 {a b c d e : Nat} (ha : a ≤ 3) (hb : b ≤ 3) (hc : c ≤ 3) (hd : d ≤ 3) : (a + 4 * b + 16 * c + 64 * d + 256 * e) % 4 = a ∧ (a + 4 * b + 16 * c + 64 * d + 256 * e) / 4 % 4 = b ∧ (a + 4 * b + 16 * c + 64 * d + 256 * e) / 16 % 4 = c ∧ (a + 4 * b + 16 * c + 64 * d + 256 * e) / 64 % 4 = d ∧ (a + 4 * b + 16 * c + 64 * d + 256 * e) / 256 = e := by
  refine ⟨by omega, by omega, by omega, by omega, by omega⟩
theorem dig16 {a b c d e : Nat} (ha : a < 16) (hb : b < 16) (hc : c < 16) (hd : d < 16) : (a + 16 * b + 256 * c + 4096 * d + 65536 * e) % 16 = a ∧ (a + 16 * b + 256 * c + 4096 * d + 65536 * e) / 16 % 16 = b ∧ (a + 16 * b + 256 * c + 4096 * d + 65536 * e) / 256 % 16 = c ∧ (a + 16 * b + 256 * c + 4096 * d + 65536 * e) / 4096 % 16 = d ∧ (a + 16 * b + 256 * c + 4096 * d + 65536 * e) / 65536 = e := by
  refine ⟨by omega, by omega, by omega, by omega, by omega⟩
theorem W4 {W : Nat} (h : W < 1024) : W = W % 4 + 4 * (W / 4 % 4) + 16 * (W / 16 % 4) + 64 * (W / 64 % 4) + 256 * (W / 256 % 4) := by
  have e1 : W / 16 = W / 4 / 4 := by rw [Nat.div_div_eq_div_mul]
  have e2 : W / 64 = W / 4 / 4 / 4 := by rw [Nat.div_div_eq_div_mul, Nat.div_div_eq_div_mul]
  have e3 : W / 256 = W / 4 / 4 / 4 / 4 := by rw [Nat.div_div_eq_div_mul, Nat.div_div_eq_div_mul, Nat.div_div_eq_div_mul]
  rw [e1, e2, e3]
  omega
theorem i4_fin : ∀ s : Fin 5, (1 : Int32) <<< (((2 : Int32) * nI s.val) &&& 31) = nI (4 ^ s.val) ∧ ((((2 : Int32) * nI s.val) &&& 31).toBitVec.smod 32).toNat = 2 * s.val := by decide +kernel
theorem i4_bit {f s : Nat} (hf : f < 32) (hs : s < 5) : ((nI f >>> (nI s &&& 31)) &&& 1 = 1) ↔ f / 2 ^ s % 2 = 1 := by
  rw [bit_fin ⟨f, hf⟩ ⟨s, hs⟩, show (1 : Int32) = nI 1 from rfl]
  exact nI_eq (by omega) (by decide)
theorem i4_dig {W s : Nat} (hW : W < 1024) (hs : s < 5) : (nI W >>> (((2 : Int32) * nI s) &&& 31)) &&& 3 = nI (W / 4 ^ s % 4) := by
  rw [pk_shrN (by omega) _ (2 * s) (i4_fin ⟨s, hs⟩).2, pk_andN (k := 2) (Nat.lt_of_le_of_lt (Nat.div_le_self _ _) (by omega)) (by decide), Nat.pow_mul]
section PD
variable {σ τ : St}
theorem wo_loop (h : Rel σ τ) {ρ : St} (e2 : ρ 0 2 = τ 0 2) (e1 : ρ 0 1 = τ 0 1) {W f : Nat} (hW : W < 1024) (hf : f < 32) : ∀ d s fuel, s + d = nSec σ → d < fuel → D_X7_withOne_8 ρ (nI W) (nI f) fuel (nI (W + l2p f s)) (if WOp (nSea σ) W f s then 1 else 0) (nI s) = some (if WOp (nSea σ) W f (nSec σ) then nI (W + l2p f (nSec σ)) else -9) := by
  have h5 := h.sec5
  have h3 := h.sea3
  intro d
  induction d with
  | zero =>
    intro s fuel hs hfu
    obtain ⟨k, rfl⟩ : ∃ k, fuel = k + 1 := ⟨fuel - 1, by omega⟩
    have : s = nSec σ := by omega
    subst this
    show D_X7_withOne_8b _ _ _ _ _ _ _ = _
    unfold D_X7_withOne_8b D_X7_withOne_85
    rw [e2, h.msec, if_pos (nI_le (Nat.le_refl _) (by omega))]
    cases WOp (nSea σ) W f (nSec σ) <;> rfl
  | succ d ih =>
    intro s fuel hs hfu
    obtain ⟨k, rfl⟩ : ∃ k, fuel = k + 1 := ⟨fuel - 1, by omega⟩
    have e := ih (s + 1) k (by omega) (by omega)
    rw [nI_succ] at e
    show D_X7_withOne_8b _ _ _ _ _ _ _ = _
    unfold D_X7_withOne_8b D_X7_withOne_54 D_X7_withOne_50 D_X7_withOne_55 D_X7_withOne_77 D_X7_isIn
    have hb2 : f / 2 ^ s % 2 < 2 := Nat.mod_lt _ (by decide)
    have ib := i4_bit hf (show s < 5 by omega)
    rw [e2, h.msec, if_neg (nI_ge (by omega) (by omega)), e1, h.msea, i4_dig hW (by omega), (i4_fin ⟨s, by omega⟩).1]
    have hl : l2p f (s + 1) = l2p f s + f / 2 ^ s % 2 * 4 ^ s := rfl
    have hw : WOp (nSea σ) W f (s + 1) = (WOp (nSea σ) W f s && (f / 2 ^ s % 2 == 0 || decide (W / 4 ^ s % 4 < nSea σ))) := rfl
    rw [hl, hw] at e
    by_cases hbit : f / 2 ^ s % 2 = 1
    · rw [if_pos (ib.mpr hbit), Option.bind_some, Option.bind_some, if_neg i10, if_neg i10, nI_add]
      rw [hbit, Nat.one_mul, ← Nat.add_assoc] at e
      have d4 : W / 4 ^ s % 4 < 4 := Nat.mod_lt _ (by decide)
      cases hp : WOp (nSea σ) W f s
      · rw [hp] at e
        rw [if_pos (by decide)]
        exact e
      · rw [hp] at e
        rw [if_neg (by decide)]
        by_cases hc : W / 4 ^ s % 4 < nSea σ
        · rw [if_neg (nI_ge hc (by omega))]
          simp only [hc, decide_true, Bool.or_true, Bool.and_true, if_true] at e
          exact e
        · rw [if_pos (nI_le (by omega) (by omega))]
          simp only [hc, decide_false, Bool.or_false, Bool.true_and] at e
          simpa using e
    · have h0 : f / 2 ^ s % 2 = 0 := by omega
      rw [if_neg (fun q => hbit (ib.mp q)), Option.bind_some, Option.bind_some, if_pos rfl, if_pos rfl, Int32.add_zero]
      rw [h0, Nat.zero_mul, Nat.add_zero] at e
      cases hp : WOp (nSea σ) W f s
      · rw [hp] at e
        rw [if_pos (by decide)]
        simpa using e
      · rw [hp] at e
        rw [if_neg (by decide)]
        simpa using e
/-- one more may sit by f where W is taken -/
def WO (σ : St) (W f : Nat) : Bool := WOp (nSea σ) W f (nSec σ)
theorem wo_eq (h : Rel σ τ) {ρ : St} (e2 : ρ 0 2 = τ 0 2) (e1 : ρ 0 1 = τ 0 1) {W f : Nat} (hW : W < 1024) (hf : f < 32) (hfs : f < 2 ^ nSec σ) : D_X7_withOne ρ (nI W) (nI f) = some (if WO σ W f then nI (W + l2 f) else -9) := by
  have h5 := h.sec5
  have e := wo_loop h e2 e1 hW hf (nSec σ) 0 FU (by omega) (FU_lt (by omega))
  rw [l2p_eq (nSec σ) h5 hfs] at e
  exact e
theorem sum3 (h : Rel σ τ) {W f : Nat} (hf : f < 32) (hfs : f < 2 ^ nSec σ) (hwo : WO σ W f = true) : ∀ s, s < 5 → W / 4 ^ s % 4 + f / 2 ^ s % 2 ≤ 3 := by
  have h5 := h.sec5
  have h3 := h.sea3
  intro s hs
  have d4 : W / 4 ^ s % 4 < 4 := Nat.mod_lt _ (by decide)
  have d2 : f / 2 ^ s % 2 < 2 := Nat.mod_lt _ (by decide)
  by_cases hsn : s < nSec σ
  · rcases WOp_iff.mp hwo s hsn with e | e <;> omega
  · have : f / 2 ^ s = 0 := Nat.div_eq_of_lt (Nat.lt_of_lt_of_le hfs (Nat.pow_le_pow_right (by decide) (by omega)))
    rw [this]; omega
def cv (W : Nat) : Nat := W % 4 + 16 * (W / 4 % 4) + 256 * (W / 16 % 4) + 4096 * (W / 64 % 4) + 65536 * (W / 256 % 4)
theorem pw4 : (4 : Nat) ^ 1 = 4 ∧ (4 : Nat) ^ 2 = 16 ∧ (4 : Nat) ^ 3 = 64 ∧ (4 : Nat) ^ 4 = 256 ∧ (2 : Nat) ^ 1 = 2 ∧ (2 : Nat) ^ 2 = 4 ∧ (2 : Nat) ^ 3 = 8 ∧ (2 : Nat) ^ 4 = 16 := by decide
theorem stepW0 {W w0 w1 w2 w3 w4 a0 a1 a2 a3 a4 l : Nat} (eW : W = w0 + 4 * w1 + 16 * w2 + 64 * w3 + 256 * w4) (el : l = a0 + 4 * a1 + 16 * a2 + 64 * a3 + 256 * a4) : W + l = (w0 + a0) + 4 * (w1 + a1) + 16 * (w2 + a2) + 64 * (w3 + a3) + 256 * (w4 + a4) := by
  rw [eW, el]; omega
theorem cvl0 (w0 w1 w2 w3 w4 a0 a1 a2 a3 a4 : Nat) : (w0 + 16 * w1 + 256 * w2 + 4096 * w3 + 65536 * w4) + (a0 + 16 * a1 + 256 * a2 + 4096 * a3 + 65536 * a4) = (w0 + a0) + 16 * (w1 + a1) + 256 * (w2 + a2) + 4096 * (w3 + a3) + 65536 * (w4 + a4) := by omega
theorem lt1024 {a b c d e : Nat} (ha : a ≤ 3) (hb : b ≤ 3) (hc : c ≤ 3) (hd : d ≤ 3) (he : e ≤ 3) : a + 4 * b + 16 * c + 64 * d + 256 * e < 1024 := by omega
theorem five {P : Nat → Prop} (h0 : P 0) (h1 : P 1) (h2 : P 2) (h3 : P 3) (h4 : P 4) : ∀ s, s < 5 → P s := by
  intro s hs
  match s, hs with
  | 0, _ => exact h0
  | 1, _ => exact h1
  | 2, _ => exact h2
  | 3, _ => exact h3
  | 4, _ => exact h4
  | s + 5, hs => omega
theorem stepW (h : Rel σ τ) {W f : Nat} (hW : W < 1024) (hf : f < 32) (hfs : f < 2 ^ nSec σ) (hwo : WO σ W f = true) : W + l2 f < 1024 ∧ cv (W + l2 f) = cv W + ld f ∧ ∀ s, s < 5 → (W + l2 f) / 4 ^ s % 4 = W / 4 ^ s % 4 + f / 2 ^ s % 2 := by
  obtain ⟨p1, p2, p3, p4, q1, q2, q3, q4⟩ := pw4
  have s0 : W % 4 + f % 2 ≤ 3 := by have := sum3 h hf hfs hwo 0 (by decide); rwa [Nat.pow_zero, Nat.div_one, Nat.div_one] at this
  have s1 : W / 4 % 4 + f / 2 % 2 ≤ 3 := by have := sum3 h hf hfs hwo 1 (by decide); rwa [p1, q1] at this
  have s2 : W / 16 % 4 + f / 4 % 2 ≤ 3 := by have := sum3 h hf hfs hwo 2 (by decide); rwa [p2, q2] at this
  have s3 : W / 64 % 4 + f / 8 % 2 ≤ 3 := by have := sum3 h hf hfs hwo 3 (by decide); rwa [p3, q3] at this
  have s4 : W / 256 % 4 + f / 16 % 2 ≤ 3 := by have := sum3 h hf hfs hwo 4 (by decide); rwa [p4, q4] at this
  have eN := stepW0 (W4 hW) (show l2 f = f % 2 + 4 * (f / 2 % 2) + 16 * (f / 4 % 2) + 64 * (f / 8 % 2) + 256 * (f / 16 % 2) from rfl)
  obtain ⟨b0, b1, b2, b3, b4⟩ := dig4 (e := W / 256 % 4 + f / 16 % 2) s0 s1 s2 s3
  rw [← eN] at b0 b1 b2 b3 b4
  have b5 : (W + l2 f) / 256 % 4 = W / 256 % 4 + f / 16 % 2 := by rw [b4]; exact Nat.mod_eq_of_lt (Nat.lt_succ_of_le s4)
  refine ⟨by rw [eN]; exact lt1024 s0 s1 s2 s3 s4, ?_, five ?_ ?_ ?_ ?_ ?_⟩
  · unfold cv
    rw [b0, b1, b2, b3, b5]
    exact (cvl0 _ _ _ _ _ _ _ _ _ _).symm
  · rw [Nat.pow_zero, Nat.div_one, Nat.div_one, Nat.div_one]; exact b0
  · rw [p1, q1]; exact b1
  · rw [p2, q2]; exact b2
  · rw [p3, q3]; exact b3
  · rw [p4, q4]; exact b5
theorem m42 {x y : Nat} : x % 4 + y % 2 < 16 := by omega
theorem dgt_cv {W f s : Nat} (hs : s < 5) : dgt (cv W + ld f) s = W / 4 ^ s % 4 + f / 2 ^ s % 2 := by
  obtain ⟨p1, p2, p3, p4, q1, q2, q3, q4⟩ := pw4
  have eN : cv W + ld f = _ := cvl0 (W % 4) (W / 4 % 4) (W / 16 % 4) (W / 64 % 4) (W / 256 % 4) (f % 2) (f / 2 % 2) (f / 4 % 2) (f / 8 % 2) (f / 16 % 2)
  obtain ⟨b0, b1, b2, b3, b4⟩ := dig16 (e := W / 256 % 4 + f / 16 % 2) (m42 (x := W) (y := f)) (m42 (x := W / 4) (y := f / 2)) (m42 (x := W / 16) (y := f / 4)) (m42 (x := W / 64) (y := f / 8))
  rw [← eN] at b0 b1 b2 b3 b4
  have b5 : (cv W + ld f) / 65536 % 16 = W / 256 % 4 + f / 16 % 2 := by rw [b4]; exact Nat.mod_eq_of_lt m42
  unfold dgt
  refine five (P := fun s => (cv W + ld f) / 16 ^ s % 16 = W / 4 ^ s % 4 + f / 2 ^ s % 2) ?_ ?_ ?_ ?_ ?_ s hs
  · rw [Nat.pow_zero, Nat.div_one, Nat.div_one, Nat.div_one]; exact b0
  · rw [p1, q1]; exact b1
  · rw [p2, q2]; exact b2
  · rw [p3, q3]; exact b3
  · rw [p4, q4]; exact b5
/-- what can be taken behind the first a riders -/
def Re (σ : St) (who : Nat) : Nat → Nat → Prop
  | 0, W => W = 0
  | a + 1, W => if who.testBit a then ∃ V f, V < 1024 ∧ f < 32 ∧ Re σ who a V ∧ RT σ a f = true ∧ WO σ V f = true ∧ W = V + l2 f else Re σ who a W
theorem RT_small (h : Rel σ τ) {a f : Nat} (ha : a < nRid σ) (hf : f < 32) (hr : RT σ a f = true) : f < 2 ^ nSec σ := by
  unfold RT at hr
  rw [Bool.and_eq_true] at hr
  exact ow_small h ha hf hr.1
theorem Re_inv (h : Rel σ τ) (who : Nat) : ∀ a, a ≤ nRid σ → ∀ W, Re σ who a W → W < 1024 ∧ ∀ s, s < nSec σ → W / 4 ^ s % 4 ≤ nSea σ := by
  have h5 := h.sec5
  intro a
  induction a with
  | zero =>
    intro _ W hW
    have : W = 0 := hW
    subst this
    exact ⟨by decide, fun s _ => by rw [Nat.zero_div]; exact Nat.zero_le _⟩
  | succ a ih =>
    intro ha W hW
    unfold Re at hW
    split at hW
    · obtain ⟨V, f, hV, hf, hRe, hRT, hWO, rfl⟩ := hW
      obtain ⟨i1, i2⟩ := ih (by omega) V hRe
      have hfs := RT_small h (by omega) hf hRT
      obtain ⟨j1, j2, j3⟩ := stepW h hV hf hfs hWO
      refine ⟨j1, fun s hs => ?_⟩
      rw [j3 s (by omega)]
      have d2 : f / 2 ^ s % 2 < 2 := Nat.mod_lt _ (by decide)
      have := i2 s hs
      rcases WOp_iff.mp hWO s hs with e | e <;> omega
    · exact ih (by omega) W hW
theorem FO_WO (h : Rel σ τ) {V f : Nat} (hinv : ∀ s, s < nSec σ → V / 4 ^ s % 4 ≤ nSea σ) : FO (cv V + ld f) (nSea σ) (nSec σ) = none ↔ WO σ V f = true := by
  have h5 := h.sec5
  unfold WO
  rw [FO_none, WOp_iff]
  constructor
  · intro hall s hs
    have := hall s hs
    rw [dgt_cv (by omega)] at this
    have d2 : f / 2 ^ s % 2 < 2 := Nat.mod_lt _ (by decide)
    omega
  · intro hall s hs
    rw [dgt_cv (by omega)]
    have := hinv s hs
    have d2 : f / 2 ^ s % 2 < 2 := Nat.mod_lt _ (by decide)
    rcases hall s hs with e | e <;> omega
theorem Re_CA (h : Rel σ τ) (who : Nat) : ∀ k a, a + k = nRid σ → ((∃ W, Re σ who (nRid σ) W) ↔ ∃ W, Re σ who a W ∧ CA σ who k (cv W) = true) := by
  intro k
  induction k with
  | zero =>
    intro a ha
    have : a = nRid σ := by omega
    subst this
    exact ⟨fun ⟨W, hW⟩ => ⟨W, hW, rfl⟩, fun ⟨W, hW, _⟩ => ⟨W, hW⟩⟩
  | succ k ih =>
    intro a ha
    rw [ih (a + 1) (by omega)]
    have ea : nRid σ - (k + 1) = a := by omega
    constructor
    · rintro ⟨W, hW, hC⟩
      unfold Re at hW
      split at hW
      · rename_i hb
        obtain ⟨V, f, hV, hf, hRe, hRT, hWO, rfl⟩ := hW
        obtain ⟨i1, i2⟩ := Re_inv h who a (by omega) V hRe
        have hfs := RT_small h (by omega) hf hRT
        obtain ⟨j1, j2, j3⟩ := stepW h hV hf hfs hWO
        refine ⟨V, hRe, ?_⟩
        rw [CA_s, ea, if_pos hb, any_iff]
        rw [j2] at hC
        refine ⟨f, hf, ?_⟩
        rw [hRT, hC, (FO_WO h i2).mpr hWO]; rfl
      · rename_i hb
        refine ⟨W, hW, ?_⟩
        rw [CA_s, ea, if_neg hb]; exact hC
    · rintro ⟨V, hRe, hC⟩
      rw [CA_s, ea] at hC
      by_cases hb : who.testBit a = true
      · rw [if_pos hb, any_iff] at hC
        obtain ⟨f, hf, hc⟩ := hC
        rw [Bool.and_eq_true, Bool.and_eq_true, beq_iff_eq] at hc
        obtain ⟨c1, c2, c3⟩ := hc
        obtain ⟨i1, i2⟩ := Re_inv h who a (by omega) V hRe
        have hWO := (FO_WO h i2).mp c2
        have hfs := RT_small h (by omega) hf c1
        obtain ⟨j1, j2, j3⟩ := stepW h i1 hf hfs hWO
        refine ⟨V + l2 f, ?_, by rw [j2]; exact c3⟩
        unfold Re
        rw [if_pos hb]
        exact ⟨V, f, i1, hf, hRe, c1, hWO, rfl⟩
      · rw [if_neg hb] at hC
        refine ⟨V, ?_, hC⟩
        unfold Re
        rw [if_neg hb]; exact hRe
/-- row c says P -/
def Row (st : St) (c : Nat) (P : Nat → Prop) : Prop := ∀ X, X < 1024 → (P X → st c X = 1) ∧ (¬ P X → st c X = 0)
theorem Row.cong {st : St} {c : Nat} {P Q : Nat → Prop} (h : Row st c P) (e : ∀ X, X < 1024 → (P X ↔ Q X)) : Row st c Q := fun X hX => ⟨fun q => (h X hX).1 ((e X hX).mpr q), fun q => (h X hX).2 (fun p => q ((e X hX).mp p))⟩
theorem Row.row {st st' : St} {c : Nat} {P : Nat → Prop} (h : Row st c P) (e : st' c = st c) : Row st' c P := fun X hX => by rw [e]; exact h X hX
theorem vp1 : vp_nar .boolean (1 : Int32) = 1 := by decide
theorem vp0 : vp_nar .boolean (0 : Int32) = 0 := by decide
theorem ad_loop (h : Rel σ τ) {f : Nat} (hf : f < 32) (hfs : f < 2 ^ nSec σ) {P Q : Nat → Prop} : ∀ d i fuel (st : St), i + d = 1024 → d < fuel → (∀ c, c ≠ 13 → c ≠ 14 → st c = τ c) → Row st 13 P → Row st 14 (fun X => Q X ∨ ∃ W, W < i ∧ P W ∧ WO σ W f = true ∧ X = W + l2 f) → ∃ st', D_X7_addTo_2 (nI f) fuel st (nI i) = some st' ∧ (∀ c, c ≠ 13 → c ≠ 14 → st' c = τ c) ∧ st' 13 = st 13 ∧ Row st' 14 (fun X => Q X ∨ ∃ W, W < 1024 ∧ P W ∧ WO σ W f = true ∧ X = W + l2 f) := by
  intro d
  induction d with
  | zero =>
    intro i fuel st hi hfu h1 h2 h3
    obtain ⟨k, rfl⟩ : ∃ k, fuel = k + 1 := ⟨fuel - 1, by omega⟩
    have : i = 1024 := by omega
    subst this
    refine ⟨st, ?_, h1, rfl, h3⟩
    show D_X7_addTo_2b _ _ _ _ = _
    unfold D_X7_addTo_2b
    rw [if_pos (by decide)]
  | succ d ih =>
    intro i fuel st hi hfu h1 h2 h3
    obtain ⟨k, rfl⟩ : ∃ k, fuel = k + 1 := ⟨fuel - 1, by omega⟩
    have q0 : ¬ (1024 : Int32) ≤ nI i := nI_ge (b := 1024) (by omega) (by decide)
    have skip : (¬ P i ∨ WO σ i f = false) → ∃ st', D_X7_addTo_2 (nI f) k st (nI i + 1) = some st' ∧ (∀ c, c ≠ 13 → c ≠ 14 → st' c = τ c) ∧ st' 13 = st 13 ∧ Row st' 14 (fun X => Q X ∨ ∃ W, W < 1024 ∧ P W ∧ WO σ W f = true ∧ X = W + l2 f) := by
      intro hno
      rw [← nI_succ]
      refine ih (i + 1) k st (by omega) (by omega) h1 h2 (h3.cong fun X _ => ?_)
      constructor
      · rintro (q | ⟨W, w1, w2, w3, w4⟩)
        · exact Or.inl q
        · exact Or.inr ⟨W, by omega, w2, w3, w4⟩
      · rintro (q | ⟨W, w1, w2, w3, w4⟩)
        · exact Or.inl q
        · by_cases e : W = i
          · subst e
            rcases hno with n | n
            · exact absurd w2 n
            · rw [n] at w3; cases w3
          · exact Or.inr ⟨W, by omega, w2, w3, w4⟩
    have base : ∀ st', D_X7_addTo_2 (nI f) (k + 1) st (nI i) = some st' ↔ (if st 13 i = 0 then D_X7_addTo_29 st (D_X7_addTo_2 (nI f) k) (nI f) (nI i) (-9) else (D_X7_withOne st (nI i) (nI f)).bind fun y16 => D_X7_addTo_29 st (D_X7_addTo_2 (nI f) k) (nI f) (nI i) y16) = some st' := by
      intro st'
      show D_X7_addTo_2b _ _ _ _ = _ ↔ _
      unfold D_X7_addTo_2b
      rw [if_neg q0, inb_nI (show i < 1024 by omega) (by decide), gd_true, nI_clamp (by omega)]
    have n9 : D_X7_addTo_29 st (D_X7_addTo_2 (nI f) k) (nI f) (nI i) (-9) = D_X7_addTo_2 (nI f) k st (nI i + 1) := by
      unfold D_X7_addTo_29 D_X7_addTo_41
      rw [if_pos (by decide)]
    by_cases hP : P i
    · have e13 : ¬ st 13 i = 0 := by rw [(h2 i (by omega)).1 hP]; decide
      cases hwo : WO σ i f
      · obtain ⟨st', r1, r2⟩ := skip (Or.inr hwo)
        refine ⟨st', (base st').mpr ?_, r2⟩
        rw [if_neg e13, wo_eq h (by rw [h1 0 (by decide) (by decide)]) (by rw [h1 0 (by decide) (by decide)]) (by omega) hf hfs, hwo, Option.bind_some]
        exact n9.trans r1
      · obtain ⟨j1, j2, j3⟩ := stepW h (show i < 1024 by omega) hf hfs hwo
        obtain ⟨st', r1, r2, r3, r4⟩ := ih (i + 1) k (up2 st 14 (i + l2 f) 1) (by omega) (by omega) (fun c c1 c2 => (up2_ne c c2).trans (h1 c c1 c2)) (h2.row (up2_ne 13 (by decide))) (fun X hX => by
          by_cases hXe : X = i + l2 f
          · subst hXe
            exact ⟨fun _ => up2_s, fun q => absurd (Or.inr ⟨i, by omega, hP, hwo, rfl⟩) q⟩
          · rw [up2_j hXe]
            have old := h3 X hX
            refine ⟨fun q => old.1 ?_, fun q => old.2 fun q2 => q ?_⟩
            · rcases q with q | ⟨W, w1, w2, w3, w4⟩
              · exact Or.inl q
              · refine Or.inr ⟨W, ?_, w2, w3, w4⟩
                by_cases e : W = i
                · rw [e] at w4; exact absurd w4 hXe
                · omega
            · rcases q2 with q2 | ⟨W, w1, w2, w3, w4⟩
              · exact Or.inl q2
              · exact Or.inr ⟨W, by omega, w2, w3, w4⟩)
        refine ⟨st', (base st').mpr ?_, r2, r3.trans (up2_ne 13 (by decide)), r4⟩
        rw [if_neg e13, wo_eq h (by rw [h1 0 (by decide) (by decide)]) (by rw [h1 0 (by decide) (by decide)]) (by omega) hf hfs, hwo, Option.bind_some]
        unfold D_X7_addTo_29 D_X7_addTo_41
        rw [if_pos rfl, if_neg (nI_pos (by omega)), inb_nI j1 (by decide), gd_true, nI_clamp (by omega), vp1, ← nI_succ]
        exact r1
    · have e13 : st 13 i = 0 := (h2 i (by omega)).2 hP
      obtain ⟨st', r1, r2⟩ := skip (Or.inl hP)
      refine ⟨st', (base st').mpr ?_, r2⟩
      rw [if_pos e13]
      exact n9.trans r1
end PD
