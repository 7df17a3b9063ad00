/-- is s in the set, as both sides ask -/
def bt1 (x : Int32) (s : Nat) : Bool := decide (((x >>> (nI s &&& 31)) &&& 1) = 1)
/-- how old behind the first n sections -/
def agF (k : Int32) (f : Nat → Int32) (x y : Int32) : Nat → Int32
  | 0 => y
  | n + 1 => if bt1 x n then agF k f x y n + gn k (f n) else agF k f x y n
def AG (σ : St) (a : Nat) (x : Int32) : Int32 := agF (σ (5 + a) 0) (σ 2) x (σ (5 + a) 3) (nSec σ)
theorem FU_lt {n : Nat} (h : n < 2000) : n < FU := h
section P4
variable {σ τ : St}
theorem yo_loop (h : Rel σ τ) (c : Nat) (x y : Int32) : ∀ d s fuel, s + d = nSec σ → d < fuel → D_X2_yearsOff_8 σ c x fuel (agF (σ c 0) (σ 2) x y s) (nI s) = some (agF (σ c 0) (σ 2) x y (nSec σ)) := by
  have h5 := h.sec5
  intro d
  induction d with
  | zero =>
    intro s fuel hs hf
    obtain ⟨k, rfl⟩ : ∃ k, fuel = k + 1 := ⟨fuel - 1, by omega⟩
    have : s = nSec σ := by omega
    subst this
    show D_X2_yearsOff_8b _ _ _ _ _ _ = _
    unfold D_X2_yearsOff_8b
    rw [h.sec, if_pos (nI_le (Nat.le_refl _) (by omega))]
  | succ d ih =>
    intro s fuel hs hf
    obtain ⟨k, rfl⟩ : ∃ k, fuel = k + 1 := ⟨fuel - 1, by omega⟩
    show D_X2_yearsOff_8b _ _ _ _ _ _ = _
    unfold D_X2_yearsOff_8b D_X2_yearsOff_41
    rw [h.sec, if_neg (nI_ge (by omega) (by omega))]
    have e := ih (s + 1) k (by omega) (by omega)
    rw [nI_succ] at e
    by_cases hb : ((x >>> (nI s &&& 31)) &&& 1) = 1
    · rw [if_pos hb, inb_nI (by omega) (by decide), gd_true, ya_eq, nI_clamp (by omega)]
      have hb2 : bt1 x s = true := decide_eq_true hb
      simp only [agF, hb2, if_true] at e
      exact e
    · rw [if_neg hb]
      have hb2 : bt1 x s = false := decide_eq_false hb
      simp only [agF, hb2] at e
      exact e
theorem yo_eq (h : Rel σ τ) (a : Nat) (x : Int32) : D_X2_yearsOff σ (5 + a) x = some (AG σ a x) := by
  have h5 := h.sec5
  exact yo_loop h (5 + a) x (σ (5 + a) 3) (nSec σ) 0 FU (by omega) (FU_lt (by omega))
theorem ab_loop (h : Rel σ τ) {a : Nat} (ha : a < nRid σ) (x y : Int32) : ∀ d s fuel, s + d = nSec σ → d < fuel → D_X7_ageBy_10 τ (nI a) x fuel (agF (σ (5 + a) 0) (σ 2) x y s) (nI s) = some (agF (σ (5 + a) 0) (σ 2) x y (nSec σ)) := by
  have h5 := h.sec5
  intro d
  induction d with
  | zero =>
    intro s fuel hs hf
    obtain ⟨k, rfl⟩ : ∃ k, fuel = k + 1 := ⟨fuel - 1, by omega⟩
    have : s = nSec σ := by omega
    subst this
    show D_X7_ageBy_10b _ _ _ _ _ _ = _
    unfold D_X7_ageBy_10b
    rw [h.msec, if_pos (nI_le (Nat.le_refl _) (by omega))]
  | succ d ih =>
    intro s fuel hs hf
    obtain ⟨k, rfl⟩ : ∃ k, fuel = k + 1 := ⟨fuel - 1, by omega⟩
    show D_X7_ageBy_10b _ _ _ _ _ _ = _
    unfold D_X7_ageBy_10b D_X7_ageBy_40 D_X7_isIn
    rw [h.msec, if_neg (nI_ge (by omega) (by omega))]
    have e := ih (s + 1) k (by omega) (by omega)
    rw [nI_succ] at e
    by_cases hb : ((x >>> (nI s &&& 31)) &&& 1) = 1
    · rw [if_pos hb, Option.bind_some, if_neg i10, go_eq h ha (by omega)]
      have hb2 : bt1 x s = true := decide_eq_true hb
      simp only [agF, hb2, if_true] at e
      exact e
    · rw [if_neg hb, Option.bind_some, if_pos rfl, Int32.add_zero]
      have hb2 : bt1 x s = false := decide_eq_false hb
      simp only [agF, hb2] at e
      exact e
theorem ab_eq (h : Rel σ τ) {a : Nat} (ha : a < nRid σ) (x : Int32) : D_X7_ageBy τ (nI a) x = some (AG σ a x) := by
  have h5 := h.sec5
  unfold D_X7_ageBy
  rw [ri4 h ha, gd_true, rcl h ha, (h.rdr a ha).2.2.2.1]
  exact ab_loop h ha x (σ (5 + a) 3) (nSec σ) 0 FU (by omega) (FU_lt (by omega))
/-- a rider's own sections, as a number -/
def OW (σ : St) (a : Nat) : Int32 := ((1 : Int32) <<< ((σ (5 + a) 2) &&& 31)) - ((1 : Int32) <<< ((σ (5 + a) 1) &&& 31))
theorem ow_fin : ∀ o f : Fin 6, o < f → ((1 : Int32) <<< (nI f.val &&& 31)) - ((1 : Int32) <<< (nI o.val &&& 31)) = nI (2 ^ f.val - 2 ^ o.val) ∧ 2 ^ f.val - 2 ^ o.val < 32 := by decide +kernel
theorem OW_eq (h : Rel σ τ) {a : Nat} (ha : a < nRid σ) : ∃ w, w < 32 ∧ OW σ a = nI w := by
  obtain ⟨-, -, -, -, -, -, ⟨o, f, h1, h2, e1, e2⟩, -⟩ := h.rdr a ha
  have h5 := h.sec5
  unfold OW
  rw [e1, e2]
  have := ow_fin ⟨o, by omega⟩ ⟨f, by omega⟩ h1
  exact ⟨_, this.2, this.1⟩
/-- x is a set of w's numbers -/
def ow (w x : Int32) : Bool := decide ((x &&& (w ^^^ (-1))) = 0)
theorem ow_le {w : Nat} {x : Int32} (hw : w < 2 ^ 31) (h : ow (nI w) x = true) : ∃ n, n ≤ w ∧ x = nI n := by
  have h1 : (x &&& (nI w ^^^ (-1))) = 0 := of_decide_eq_true h
  have h2 : x.toBitVec &&& ((nI w).toBitVec ^^^ BitVec.allOnes 32) = 0#32 := congrArg Int32.toBitVec h1
  have h3 : x.toBitVec = x.toBitVec &&& (nI w).toBitVec := by
    apply BitVec.eq_of_getLsbD_eq
    intro i hi
    have h4 := congrArg (fun b => b.getLsbD i) h2
    simp only [BitVec.getLsbD_and, BitVec.getLsbD_xor, BitVec.getLsbD_allOnes, hi, decide_true, Bool.xor_true, BitVec.getLsbD_zero] at h4
    rw [BitVec.getLsbD_and]
    cases hx : x.toBitVec.getLsbD i <;> simp [hx] at h4 ⊢
    exact h4
  have h5 : x.toBitVec.toNat ≤ w := by
    have h6 := congrArg BitVec.toNat h3
    rw [BitVec.toNat_and, pk_tn (by omega)] at h6
    rw [h6]
    exact Nat.and_le_right
  refine ⟨x.toBitVec.toNat, h5, Int32.toBitVec_inj.mp ?_⟩
  apply BitVec.eq_of_toNat_eq
  rw [pk_tn (by omega)]
theorem ons_eq (ρ : St) (a : Nat) (x : Int32) : D_X4_owns ρ (5 + a) x = some (if ow (OW ρ a) x then 1 else 0) := by
  unfold D_X4_owns
  rw [own_eq, Option.bind_some]
  show (if (x &&& (OW ρ a ^^^ (-1))) = 0 then some 1 else some 0 : Option Int32) = _
  by_cases hb : (x &&& (OW ρ a ^^^ (-1))) = 0
  · have e : ow (OW ρ a) x = true := decide_eq_true hb
    rw [if_pos hb, e]; rfl
  · have e : ow (OW ρ a) x = false := decide_eq_false hb
    rw [if_neg hb, e]; rfl
theorem nso_eq (h : Rel σ τ) {a : Nat} (ha : a < nRid σ) (x : Int32) : D_X7_noSetOf τ (nI a) x = some (if ow (OW σ a) x then 0 else 1) := by
  unfold D_X7_noSetOf
  rw [all_eq h ha, Option.bind_some]
  by_cases h0 : x < 0
  · rw [if_pos h0]
    obtain ⟨w, hw, e⟩ := OW_eq h ha
    cases hb : ow (OW σ a) x
    · rfl
    · rw [e] at hb
      obtain ⟨n, hn, e2⟩ := ow_le (by omega) hb
      rw [e2] at h0
      exact absurd h0 (nI_pos (by omega))
  · rw [if_neg h0]
    by_cases hb : (x &&& (OW σ a ^^^ (-1))) = 0
    · have : ow (OW σ a) x = true := decide_eq_true hb
      rw [this]; exact if_pos hb
    · have : ow (OW σ a) x = false := decide_eq_false hb
      rw [this]; exact if_neg hb
theorem pf_age (h : Rel σ τ) (x y : Int32) : E1 (D_X6_age σ x y) (D_X7_age τ x y) := by
  rcases ridc h x with hn | ⟨a, ha, rfl⟩
  · exact ⟨-1, by simp [D_X6_age, hasR_n h hn], by simp [D_X7_age, noR_n h hn, i10]⟩
  · cases hb : ow (OW σ a) y
    · exact ⟨-2, by simp [D_X6_age, hasR_y h ha, i10, ri4 h ha, gd_true, rcl h ha, ons_eq, hb], by simp [D_X7_age, noR_y h ha, nso_eq h ha, hb, i10]⟩
    · exact ⟨AG σ a y, by simp [D_X6_age, hasR_y h ha, i10, ri4 h ha, gd_true, rcl h ha, ons_eq, hb, yo_eq h], by simp [D_X7_age, noR_y h ha, nso_eq h ha, hb, ab_eq h ha]⟩
/-- the readings of n hold -/
def allF (σ : St) : Nat → Bool
  | 0 => true
  | n + 1 => allF σ n && decide (AG σ (σ 10 n).toNatClampNeg (σ 11 n) = σ 12 n)
theorem ah_loop (h : Rel σ τ) : ∀ d s fuel, s + d = nRed σ → d < fuel → allF σ s = true → D_X1_allHold_2 σ fuel (nI s) = some (if allF σ (nRed σ) then 1 else 0) := by
  have h8 := h.red8
  intro d
  induction d with
  | zero =>
    intro s fuel hs hf ht
    obtain ⟨k, rfl⟩ : ∃ k, fuel = k + 1 := ⟨fuel - 1, by omega⟩
    have : s = nRed σ := by omega
    subst this
    show D_X1_allHold_2b _ _ _ = _
    unfold D_X1_allHold_2b
    rw [h.red, if_pos (nI_le (Nat.le_refl _) (by omega)), ht]; rfl
  | succ d ih =>
    intro s fuel hs hf ht
    obtain ⟨k, rfl⟩ : ∃ k, fuel = k + 1 := ⟨fuel - 1, by omega⟩
    show D_X1_allHold_2b _ _ _ = _
    unfold D_X1_allHold_2b
    obtain ⟨-, -, -, a, ha, ea⟩ := h.rea s (by omega)
    have q1 : inb (nI s) 8 = true := inb_nI (by omega) (by decide)
    have q2 : (nI s).toNatClampNeg = s := nI_clamp (by omega)
    rw [h.red, if_neg (nI_ge (by omega) (by omega))]
    simp only [q1, gd_true, q2, ea, ri4 h ha, rcl h ha, yo_eq h, Option.bind_some]
    by_cases he : AG σ a (σ 11 s) = σ 12 s
    · rw [if_pos he]
      have := ih (s + 1) k (by omega) (by omega) (by simp [allF, ht, ea, rcl h ha, he])
      rw [nI_succ] at this
      exact this
    · rw [if_neg he]
      have hz : ∀ m, s < m → allF σ m = false := by
        intro m hm
        induction m with
        | zero => omega
        | succ m ihm =>
          by_cases hms : s < m
          · simp [allF, ihm hms]
          · have : m = s := by omega
            subst this
            simp [allF, ea, rcl h ha, he]
      rw [hz (nRed σ) (by omega)]; rfl
theorem ah_eq (h : Rel σ τ) : D_X1_allHold σ = some (if allF σ (nRed σ) then 1 else 0) := by
  have h8 := h.red8
  exact ah_loop h (nRed σ) 0 FU (by omega) (FU_lt (by omega)) rfl
theorem as_loop (h : Rel σ τ) : ∀ d s fuel, s + d = nRed σ → d < fuel → D_X7_areSo_4 τ fuel (if allF σ s then 1 else 0) (nI s) = some (if allF σ (nRed σ) then 1 else 0) := by
  have h8 := h.red8
  intro d
  induction d with
  | zero =>
    intro s fuel hs hf
    obtain ⟨k, rfl⟩ : ∃ k, fuel = k + 1 := ⟨fuel - 1, by omega⟩
    have : s = nRed σ := by omega
    subst this
    show D_X7_areSo_4b _ _ _ _ = _
    unfold D_X7_areSo_4b
    rw [h.mred, if_pos (nI_le (Nat.le_refl _) (by omega))]
    cases allF σ (nRed σ) <;> rfl
  | succ d ih =>
    intro s fuel hs hf
    obtain ⟨k, rfl⟩ : ∃ k, fuel = k + 1 := ⟨fuel - 1, by omega⟩
    show D_X7_areSo_4b _ _ _ _ = _
    unfold D_X7_areSo_4b D_X7_areSo_45 D_X7_areSo_46
    obtain ⟨t1, t2, t3, a, ha, ea⟩ := h.rea s (by omega)
    have e := ih (s + 1) k (by omega) (by omega)
    rw [nI_succ] at e
    rw [h.mred, if_neg (nI_ge (by omega) (by omega))]
    cases ht : allF σ s
    · simp only [allF, ht, Bool.false_and] at e
      simpa using e
    · have q1 : inb (nI s) 8 = true := inb_nI (by omega) (by decide)
      have q2 : (nI s).toNatClampNeg = s := nI_clamp (by omega)
      simp only [q1, gd_true, q2, t1, t2, t3, ea, ab_eq h ha, Option.bind_some]
      simp only [allF, ht, ea, rcl h ha, Bool.true_and] at e
      by_cases he : AG σ a (σ 11 s) = σ 12 s
      · simp only [he, decide_true, if_true] at e
        rw [if_pos he]
        simpa [i10] using e
      · simp only [he, decide_false] at e
        rw [if_neg he]
        simpa [i10] using e
theorem as_eq (h : Rel σ τ) : D_X7_areSo τ = some (if allF σ (nRed σ) then 1 else 0) := by
  have h8 := h.red8
  exact as_loop h (nRed σ) 0 FU (by omega) (FU_lt (by omega))
end P4
