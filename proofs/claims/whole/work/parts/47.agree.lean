/-! loads, seats, AGREE -/
def ld (f : Nat) : Nat := f % 2 + 16 * (f / 2 % 2) + 256 * (f / 4 % 2) + 4096 * (f / 8 % 2) + 65536 * (f / 16 % 2)
theorem lo_any (ρ : St) (x : Int32) : ∀ n a b, D_X0_of_4 ρ x n a b = D_X0_of_4 σ00 x n a b := by
  intro n
  induction n with
  | zero => intro a b; rfl
  | succ n ih =>
    intro a b
    show D_X0_of_4b ρ (D_X0_of_4 ρ x n) x a b = D_X0_of_4b σ00 (D_X0_of_4 σ00 x n) x a b
    unfold D_X0_of_4b
    rw [ih]
theorem lo_fin : ∀ f : Fin 32, D_X0_of_4 σ00 (nI f.val) FU 0 0 = some (nI (ld f.val)) := by decide +kernel
theorem lo_eq (ρ : St) {f : Nat} (h : f < 32) : D_X0_of ρ (nI f) = some (nI (ld f)) := (lo_any ρ _ _ _ _).trans (lo_fin ⟨f, h⟩)
def dgt (L s : Nat) : Nat := L / 16 ^ s % 16
theorem sh_fin : ∀ s : Fin 5, ((((4 : Int32) * nI s.val) &&& 31).toBitVec.smod 32).toNat = 4 * s.val := by decide +kernel
theorem on_eq (ρ : St) {L s : Nat} (hL : L < 2 ^ 31) (hs : s < 5) : D_X0_on ρ (nI L) (nI s) = some (nI (dgt L s)) := by
  unfold D_X0_on dgt
  rw [pk_shrN hL _ (4 * s) (sh_fin ⟨s, hs⟩), pk_andN (k := 4) (Nat.lt_of_le_of_lt (Nat.div_le_self _ _) (by omega)) (by decide), Nat.pow_mul]
/-- the first of n sections with more above than se -/
def FO (L se : Nat) : Nat → Option Nat
  | 0 => none
  | n + 1 => match FO L se n with
    | some s => some s
    | none => if se < dgt L n then some n else none
theorem FO_s (L se n : Nat) : FO L se (n + 1) = match FO L se n with
    | some s => some s
    | none => if se < dgt L n then some n else none := rfl
theorem FO_keep {L se s n : Nat} (h : FO L se n = some s) : ∀ k, FO L se (n + k) = some s := by
  intro k
  induction k with
  | zero => exact h
  | succ k ih => rw [← Nat.add_assoc, FO_s, ih]
theorem FO_lt {L se : Nat} : ∀ {n s}, FO L se n = some s → s < n := by
  intro n
  induction n with
  | zero => intro s h; cases h
  | succ n ih =>
    intro s h
    rw [FO_s] at h
    cases hn : FO L se n with
    | some t => rw [hn] at h; cases h; have := ih hn; omega
    | none =>
      rw [hn] at h
      by_cases hc : se < dgt L n
      · simp only [hc, if_true] at h; cases h; omega
      · simp only [hc, if_false] at h; cases h
theorem FO_none {L se : Nat} : ∀ {n}, FO L se n = none ↔ ∀ s, s < n → dgt L s ≤ se := by
  intro n
  induction n with
  | zero => exact ⟨fun _ s hs => absurd hs (Nat.not_lt_zero s), fun _ => rfl⟩
  | succ n ih =>
    rw [FO_s]
    cases hn : FO L se n with
    | some t =>
      constructor
      · intro h; cases h
      · intro h
        have := ih.mpr (fun s hs => h s (by omega))
        rw [hn] at this; cases this
    | none =>
      have h0 := ih.mp hn
      by_cases hc : se < dgt L n
      · simp only [hc, if_true]
        constructor
        · intro h; cases h
        · intro h; have := h n (by omega); omega
      · simp only [hc, if_false]
        refine ⟨fun _ s hs => ?_, fun _ => trivial⟩
        by_cases e : s = n
        · rw [e]; omega
        · exact h0 s (by omega)
section P8
variable {σ τ : St}
theorem fo_loop (h : Rel σ τ) {L : Nat} (hL : L < 2 ^ 31) : ∀ d s fuel, s + d = nSec σ → d < fuel → FO L (nSea σ) s = none → D_X2_firstOver_2 σ (nI L) fuel (nI s) = some (enc (FO L (nSea σ) (nSec σ))) := by
  have h5 := h.sec5
  have h3 := h.sea3
  intro d
  induction d with
  | zero =>
    intro s fuel hs hf hn
    obtain ⟨k, rfl⟩ : ∃ k, fuel = k + 1 := ⟨fuel - 1, by omega⟩
    have : s = nSec σ := by omega
    subst this
    show D_X2_firstOver_2b _ _ _ _ = _
    unfold D_X2_firstOver_2b
    rw [h.sec, if_pos (nI_le (Nat.le_refl _) (by omega)), hn]; rfl
  | succ d ih =>
    intro s fuel hs hf hn
    obtain ⟨k, rfl⟩ : ∃ k, fuel = k + 1 := ⟨fuel - 1, by omega⟩
    show D_X2_firstOver_2b _ _ _ _ = _
    unfold D_X2_firstOver_2b
    have hd : dgt L s < 16 := Nat.mod_lt _ (by decide)
    rw [h.sec, if_neg (nI_ge (by omega) (by omega)), on_eq σ hL (by omega), Option.bind_some, h.sea]
    by_cases hc : nSea σ < dgt L s
    · rw [if_neg (nI_ge hc (by omega))]
      have e : FO L (nSea σ) (s + 1) = some s := by rw [FO_s, hn]; simp [hc]
      have := FO_keep e d
      rw [show s + 1 + d = nSec σ by omega] at this
      rw [this]; rfl
    · rw [if_pos (nI_le (by omega) (by omega)), ← nI_succ]
      exact ih (s + 1) k (by omega) (by omega) (by rw [FO_s, hn]; simp [hc])
theorem fo_eq (h : Rel σ τ) {L : Nat} (hL : L < 2 ^ 31) : D_X2_firstOver σ (nI L) = some (enc (FO L (nSea σ) (nSec σ))) := by
  have h5 := h.sec5
  exact fo_loop h hL (nSec σ) 0 FU (by omega) (FU_lt (by omega)) rfl
theorem enc_n9 {x : Option Nat} (h : ∀ n, x = some n → n < 2 ^ 31) : enc x = -9 ↔ x = none := by
  cases x with
  | none => exact ⟨fun _ => rfl, fun _ => rfl⟩
  | some n =>
    have hn := h n rfl
    refine ⟨fun e => ?_, fun e => by cases e⟩
    have e2 := congrArg Int32.toInt (show nI n = -9 from e)
    rw [nI_toInt hn] at e2
    have : (-9 : Int32).toInt = -9 := by decide
    omega
theorem OW_eq2 (h : Rel σ τ) {a : Nat} (ha : a < nRid σ) : ∃ w, w < 2 ^ nSec σ ∧ w < 32 ∧ OW σ a = nI w := by
  obtain ⟨-, -, -, -, -, -, ⟨o, f, h1, h2, e1, e2⟩, -⟩ := h.rdr a ha
  have h5 := h.sec5
  refine ⟨2 ^ f - 2 ^ o, ?_, (ow_fin ⟨o, by omega⟩ ⟨f, by omega⟩ h1).2, ?_⟩
  · have := Nat.pow_le_pow_right (n := 2) (by decide) h2
    have := Nat.two_pow_pos o
    have := Nat.two_pow_pos f
    omega
  · unfold OW
    rw [e1, e2]
    exact (ow_fin ⟨o, by omega⟩ ⟨f, by omega⟩ h1).1
theorem ow_small (h : Rel σ τ) {a : Nat} (ha : a < nRid σ) {n : Nat} (hn : n < 32) (hb : ow (OW σ a) (nI n) = true) : n < 2 ^ nSec σ := by
  obtain ⟨w, hw, hw2, ew⟩ := OW_eq2 h ha
  rw [ew] at hb
  obtain ⟨m, hm, e⟩ := ow_le (by omega) hb
  have := (nI_eq (by omega) (by omega)).mp e
  omega
def seatOk (n se f o : Nat) : Bool := (FO (ld f + ld o) se n == none) == ((f == 0 || decide (0 < se)) && (o == 0 || decide (0 < se)) && ((f &&& o) == 0 || decide (1 < se)))
theorem seat_fin : ∀ n : Fin 6, ∀ se : Fin 4, ∀ f : Fin 32, ∀ o : Fin 32, f.val < 2 ^ n.val → o.val < 2 ^ n.val → seatOk n.val se.val f.val o.val = true := by decide +kernel
def cst2 (x : Nat) : Nat := pcN (x / 32) + pcN (x % 32)
def PA (σ : St) (a b x : Nat) : Bool := MS σ a (x / 32) && (MS σ b (x % 32) && (((x / 32 &&& x % 32) == 0 || decide (1 < nSea σ)) && decide (AG σ a (nI (x / 32)) = AG σ b (nI (x % 32)))))
theorem ld_lt {f : Nat} : ld f < 69906 := by unfold ld; omega
theorem ba_eq (h : Rel σ τ) {a b : Nat} (ha : a < nRid σ) (hb : b < nRid σ) {f o : Nat} (hf : f < 32) (ho : o < 32) (h1 : ow (OW σ a) (nI f) = true) (h2 : ow (OW σ b) (nI o) = true) : D_X2_bothAgree σ (5 + a) (nI f) (5 + b) (nI o) = some (if PA σ a b (32 * f + o) then 1 else 0) := by
  have h5 := h.sec5
  have h3 := h.sea3
  have l1 := ld_lt (f := f)
  have l2 := ld_lt (f := o)
  have e1 : (32 * f + o) / 32 = f := by omega
  have e2 : (32 * f + o) % 32 = o := by omega
  unfold D_X2_bothAgree PA
  rw [yo_eq h, Option.bind_some, yo_eq h, Option.bind_some, e1, e2]
  have sf := seat_fin ⟨nSec σ, by omega⟩ ⟨nSea σ, by omega⟩ ⟨f, hf⟩ ⟨o, ho⟩ (ow_small h ha hf h1) (ow_small h hb ho h2)
  simp only [seatOk, beq_iff_eq] at sf
  by_cases hv : AG σ a (nI f) = AG σ b (nI o)
  · rw [if_pos hv, lo_eq σ hf, Option.bind_some, lo_eq σ ho, Option.bind_some, nI_add, fo_eq h (by omega), Option.bind_some]
    have q := enc_n9 (x := FO (ld f + ld o) (nSea σ) (nSec σ)) (fun n hn => by have := FO_lt hn; omega)
    simp only [MS, h1, h2, hv, decide_true, Bool.and_true, Bool.true_and]
    cases hx : FO (ld f + ld o) (nSea σ) (nSec σ) with
    | none =>
      rw [hx] at sf
      rw [if_pos (show enc none = -9 from rfl)]
      have sf' := sf.symm
      simp only [beq_self_eq_true, Bool.and_eq_true, Bool.or_eq_true, decide_eq_true_eq, beq_iff_eq] at sf'
      simp only [Bool.and_eq_true, Bool.or_eq_true, decide_eq_true_eq, beq_iff_eq]
      rw [if_pos ⟨sf'.1.1, sf'.1.2, sf'.2⟩]
    | some s =>
      rw [hx] at sf q
      rw [if_neg (fun e => by have := q.mp e; cases this)]
      have sf' := sf.symm
      have hne : ((some s : Option Nat) == none) = false := rfl
      rw [hne] at sf'
      have : ¬ ((f = 0 ∨ 0 < nSea σ) ∧ (o = 0 ∨ 0 < nSea σ) ∧ (f &&& o = 0 ∨ 1 < nSea σ)) := by
        rintro ⟨x1, x2, x3⟩
        have : ((f == 0 || decide (0 < nSea σ)) && (o == 0 || decide (0 < nSea σ)) && ((f &&& o) == 0 || decide (1 < nSea σ))) = true := by
          simp only [Bool.and_eq_true, Bool.or_eq_true, decide_eq_true_eq, beq_iff_eq]
          exact ⟨⟨x1, x2⟩, x3⟩
        rw [this] at sf'; cases sf'
      simp only [Bool.and_eq_true, Bool.or_eq_true, decide_eq_true_eq, beq_iff_eq]
      rw [if_neg this]
  · rw [if_neg hv]
    simp [hv]
def fw (x : Option Nat) : Int32 := match x with
  | none => 11
  | some n => nI (cst2 n)
theorem cst2_le {x : Nat} : cst2 x ≤ 10 := by
  have := pcN_le (n := x / 32)
  have := pcN_le (n := x % 32)
  unfold cst2; omega
theorem pair_fin : ∀ f : Fin 32, ∀ o : Fin 32, (nI f.val <<< ((5 : Int32) &&& 31)) ||| nI o.val = nI (32 * f.val + o.val) := by decide +kernel
theorem PA_own (h : Rel σ τ) {a b : Nat} {x : Nat} (hn : ow (OW σ a) (nI (x / 32)) = false ∨ ow (OW σ b) (nI (x % 32)) = false) : PA σ a b x = false := by
  unfold PA MS
  rcases hn with e | e
  · rw [e]; rfl
  · rw [e]; simp
theorem ag_in (h : Rel σ τ) {a b : Nat} (ha : a < nRid σ) (hb : b < nRid σ) {wb : Nat} (hwb : wb < 32) (eb : OW σ b = nI wb) {f : Nat} (hf : f < 32) (rc : Int32 → Int32 → Int32 → Option Int32) : ∀ d o fuel, o + d = wb + 1 → d < fuel → D_X2_agreeing_22 σ (5 + a) (5 + b) (nI f) rc fuel (enc (WY (PA σ a b) cst2 (32 * f + o))) (fw (WY (PA σ a b) cst2 (32 * f + o))) (nI o) = rc (enc (WY (PA σ a b) cst2 (32 * f + (wb + 1)))) (fw (WY (PA σ a b) cst2 (32 * f + (wb + 1)))) (nI f + 1) := by
  intro d
  induction d with
  | zero =>
    intro o fuel ho hfu
    obtain ⟨k, rfl⟩ : ∃ k, fuel = k + 1 := ⟨fuel - 1, by omega⟩
    have : o = wb + 1 := by omega
    subst this
    show D_X2_agreeing_22b _ _ _ _ _ _ _ _ _ = _
    unfold D_X2_agreeing_22b D_X2_agreeing_100
    rw [own_eq, Option.bind_some]
    show (if OW σ b < _ then _ else _) = _
    rw [eb, if_pos ((own_lt hwb (by omega)).mpr (by omega))]
  | succ d ih =>
    intro o fuel ho hfu
    obtain ⟨k, rfl⟩ : ∃ k, fuel = k + 1 := ⟨fuel - 1, by omega⟩
    have e := ih (o + 1) k (by omega) (by omega)
    rw [nI_succ, ← Nat.add_assoc, WY_s] at e
    show D_X2_agreeing_22b _ _ _ _ _ _ _ _ _ = _
    unfold D_X2_agreeing_22b D_X2_agreeing_94
    rw [own_eq, Option.bind_some]
    show (if OW σ b < _ then _ else _) = _
    rw [eb, if_neg (fun q => by have := (own_lt hwb (by omega)).mp q; omega), bc_eq σ hf, Option.bind_some, bc_eq σ (show o < 32 by omega), Option.bind_some, nI_add, ons_eq, Option.bind_some, ons_eq, Option.bind_some]
    have e1 : (32 * f + o) / 32 = f := by omega
    have e2 : (32 * f + o) % 32 = o := by omega
    have ec : pcN f + pcN o = cst2 (32 * f + o) := by unfold cst2; rw [e1, e2]
    have cl := cst2_le (x := 32 * f + o)
    rw [ec]
    by_cases hown : ow (OW σ a) (nI f) = true ∧ ow (OW σ b) (nI o) = true
    · rw [hown.1, hown.2, ba_eq h ha hb hf (by omega) hown.1 hown.2, Option.bind_some]
      simp only [if_true, i10, if_false]
      cases hp : PA σ a b (32 * f + o)
      · rw [hp] at e
        simp only [Bool.false_eq_true, if_false] at e
        simp only [Bool.false_eq_true, if_false]
        split <;> simpa using e
      · rw [hp] at e
        simp only [if_true] at e
        simp only [if_true, i10, if_false]
        rw [pair_fin ⟨f, hf⟩ ⟨o, by omega⟩]
        cases hw : WY (PA σ a b) cst2 (32 * f + o) with
        | none =>
          rw [hw] at e
          have q : ¬ fw none ≤ nI (cst2 (32 * f + o)) := nI_ge (b := 11) (by omega) (by decide)
          rw [if_neg q]
          exact e
        | some x =>
          rw [hw] at e
          have cx := cst2_le (x := x)
          by_cases hc : cst2 (32 * f + o) < cst2 x
          · have q : ¬ fw (some x) ≤ nI (cst2 (32 * f + o)) := nI_ge hc (by omega)
            rw [if_neg q]
            simp only [hc, if_true] at e
            exact e
          · have q : fw (some x) ≤ nI (cst2 (32 * f + o)) := nI_le (by omega) (by omega)
            rw [if_pos q]
            simp only [hc, if_false] at e
            exact e
    · have hp : PA σ a b (32 * f + o) = false := by
        apply PA_own h
        rw [e1, e2]
        cases h1 : ow (OW σ a) (nI f)
        · exact Or.inl rfl
        · cases h2 : ow (OW σ b) (nI o)
          · exact Or.inr rfl
          · exact absurd ⟨h1, h2⟩ hown
      rw [hp] at e
      simp only [Bool.false_eq_true, if_false] at e
      split
      · exact e
      · cases h1 : ow (OW σ a) (nI f)
        · simpa using e
        · cases h2 : ow (OW σ b) (nI o)
          · simpa [i10] using e
          · exact absurd ⟨h1, h2⟩ hown
theorem ag_out (h : Rel σ τ) {a b : Nat} (ha : a < nRid σ) (hb : b < nRid σ) {wa wb : Nat} (hwa : wa < 32) (ea : OW σ a = nI wa) (hwb : wb < 32) (eb : OW σ b = nI wb) : ∀ d f fuel, f + d = wa + 1 → d < fuel → D_X2_agreeing_10 σ (5 + a) (5 + b) fuel (enc (WY (PA σ a b) cst2 (32 * f))) (fw (WY (PA σ a b) cst2 (32 * f))) (nI f) = some (enc (WY (PA σ a b) cst2 (32 * (wa + 1)))) := by
  intro d
  induction d with
  | zero =>
    intro f fuel hf hfu
    obtain ⟨k, rfl⟩ : ∃ k, fuel = k + 1 := ⟨fuel - 1, by omega⟩
    have : f = wa + 1 := by omega
    subst this
    show D_X2_agreeing_10b _ _ _ _ _ _ _ = _
    unfold D_X2_agreeing_10b
    rw [own_eq, Option.bind_some]
    show (if OW σ a < _ then _ else _) = _
    rw [ea, if_pos ((own_lt hwa (by omega)).mpr (by omega))]
  | succ d ih =>
    intro f fuel hf hfu
    obtain ⟨k, rfl⟩ : ∃ k, fuel = k + 1 := ⟨fuel - 1, by omega⟩
    show D_X2_agreeing_10b _ _ _ _ _ _ _ = _
    unfold D_X2_agreeing_10b
    rw [own_eq, Option.bind_some]
    show (if OW σ a < _ then _ else _) = _
    rw [ea, if_neg (fun q => by have := (own_lt hwa (by omega)).mp q; omega)]
    have e := ag_in h ha hb hwb eb (show f < 32 by omega) (D_X2_agreeing_10 σ (5 + a) (5 + b) k) (wb + 1) 0 FU (by omega) (FU_lt (by omega))
    have st : WY (PA σ a b) cst2 (32 * f + (wb + 1)) = WY (PA σ a b) cst2 (32 * (f + 1)) := by
      have := WY_stop (P := PA σ a b) (c := cst2) (m := 32 * f + (wb + 1)) (31 - wb) (fun n h1 h2 => PA_own h (Or.inr (MS_own h hb hwb eb (by omega) (by omega))))
      rw [show 32 * f + (wb + 1) + (31 - wb) = 32 * (f + 1) by omega] at this
      exact this.symm
    rw [st] at e
    refine e.trans ?_
    rw [← nI_succ]
    exact ih (f + 1) k (by omega) (by omega)
theorem agr_c (h : Rel σ τ) {a b : Nat} (ha : a < nRid σ) (hb : b < nRid σ) : D_X2_agreeing σ (5 + a) (5 + b) = some (enc (WY (PA σ a b) cst2 1024)) := by
  obtain ⟨wa, hwa, ea⟩ := OW_eq h ha
  obtain ⟨wb, hwb, eb⟩ := OW_eq h hb
  have e := ag_out h ha hb hwa ea hwb eb (wa + 1) 0 FU (by omega) (FU_lt (by omega))
  have st := WY_stop (P := PA σ a b) (c := cst2) (m := 32 * (wa + 1)) (1024 - 32 * (wa + 1)) (fun n h1 h2 => PA_own h (Or.inl (MS_own h ha hwa ea (by omega) (by omega))))
  rw [show 32 * (wa + 1) + (1024 - 32 * (wa + 1)) = 1024 by omega] at st
  rw [← st] at e
  exact e
def fc (x : Option Nat) : Int32 := match x with
  | none => -9
  | some n => nI (cst2 n)
def f1 (x : Option Nat) : Int32 := match x with
  | none => -9
  | some n => nI (n / 32)
def f2 (x : Option Nat) : Int32 := match x with
  | none => -9
  | some n => nI (n % 32)
theorem and_nI (a b : Nat) : nI a &&& nI b = nI (a &&& b) := by
  apply Int32.toBitVec_inj.mp
  show BitVec.ofNat 32 a &&& BitVec.ofNat 32 b = BitVec.ofNat 32 (a &&& b)
  rw [BitVec.ofNat_and]
theorem hs_eq (h : Rel σ τ) {f o : Nat} (hf : f < 32) (ho : o < 32) : D_X7_haveSeats τ (nI f) (nI o) = some (if ((f &&& o) == 0 || decide (1 < nSea σ)) then 1 else 0) := by
  have h3 := h.sea3
  have hlt : f &&& o < 2 ^ 31 := Nat.lt_of_le_of_lt Nat.and_le_left (by omega)
  unfold D_X7_haveSeats
  rw [h.msea, and_nI]
  simp only [nI_z hlt]
  by_cases h0 : f &&& o = 0
  · rw [if_pos h0]; simp [h0]
  · rw [if_neg h0]
    by_cases h1 : 1 < nSea σ
    · have q : ¬ nI (nSea σ) ≤ (1 : Int32) := nI_ge (a := 1) h1 (by omega)
      rw [if_neg q]; simp [h1]
    · have q : nI (nSea σ) ≤ (1 : Int32) := nI_le (b := 1) (by omega) (by decide)
      rw [if_pos q]; simp [h0, h1]
theorem agr_m (h : Rel σ τ) {a b : Nat} (ha : a < nRid σ) (hb : b < nRid σ) (u : Int32) : ∀ d x fuel, x + d = 1024 → d < fuel → D_X7_agree_53 τ (nI a) (nI b) u fuel (fc (WY (PA σ a b) cst2 x)) (f1 (WY (PA σ a b) cst2 x)) (f2 (WY (PA σ a b) cst2 x)) (nI x) = D_X7_agree_178 τ u (fc (WY (PA σ a b) cst2 1024)) (f1 (WY (PA σ a b) cst2 1024)) (f2 (WY (PA σ a b) cst2 1024)) := by
  intro d
  induction d with
  | zero =>
    intro x fuel hx hfu
    obtain ⟨k, rfl⟩ : ∃ k, fuel = k + 1 := ⟨fuel - 1, by omega⟩
    have : x = 1024 := by omega
    subst this
    show D_X7_agree_53b _ _ _ _ _ _ _ _ _ = _
    unfold D_X7_agree_53b
    rw [if_pos (by decide)]
  | succ d ih =>
    intro x fuel hx hfu
    obtain ⟨k, rfl⟩ : ∃ k, fuel = k + 1 := ⟨fuel - 1, by omega⟩
    have e := ih (x + 1) k (by omega) (by omega)
    rw [nI_succ, WY_s] at e
    show D_X7_agree_53b _ _ _ _ _ _ _ _ _ = _
    unfold D_X7_agree_53b D_X7_agree_140 D_X7_agree_141 D_X7_agree_160 D_X7_agree_172
    have q0 : ¬ (1024 : Int32) ≤ nI x := nI_ge (b := 1024) (by omega) (by decide)
    have q1 : nI x / (32 : Int32) = nI (x / 32) := pk_div (d := 32) (by omega) (by decide) (by decide)
    have q2 : nI x - nI x / (32 : Int32) * (32 : Int32) = nI (x % 32) := pk_rem (d := 32) (by omega) (by decide) (by decide)
    have x1 : x / 32 < 32 := by omega
    have x2 : x % 32 < 32 := by omega
    rw [if_neg q0, q2, q1, bi_eq τ x1, Option.bind_some, bi_eq τ x2, Option.bind_some, may_eq h ha x1, Option.bind_some, may_eq h hb x2, Option.bind_some, hs_eq h x1 x2, Option.bind_some, ab_eq h ha, Option.bind_some, ab_eq h hb, Option.bind_some, nI_add]
    have ec : pcN (x / 32) + pcN (x % 32) = cst2 x := rfl
    have cl := cst2_le (x := x)
    rw [ec]
    cases hp : PA σ a b x
    · rw [hp] at e
      simp only [Bool.false_eq_true, if_false] at e
      unfold PA at hp
      cases h1 : MS σ a (x / 32)
      · simpa using e
      · cases h2 : MS σ b (x % 32)
        · simpa [i10] using e
        · cases h3 : ((x / 32 &&& x % 32) == 0 || decide (1 < nSea σ))
          · simpa [i10] using e
          · rw [h1, h2, h3] at hp
            have hv : ¬ AG σ a (nI (x / 32)) = AG σ b (nI (x % 32)) := by simpa using hp
            simp only [if_true, i10, if_false, hv]
            exact e
    · rw [hp] at e
      simp only [if_true] at e
      unfold PA at hp
      simp only [Bool.and_eq_true, decide_eq_true_eq] at hp
      obtain ⟨h1, h2, h3, h4⟩ := hp
      simp only [h1, h2, h3, h4, if_true, i10, if_false]
      cases hw : WY (PA σ a b) cst2 x with
      | none =>
        rw [hw] at e
        rw [if_pos (show fc none < 0 by decide)]
        exact e
      | some y =>
        rw [hw] at e
        have cy := cst2_le (x := y)
        have q : ¬ fc (some y) < 0 := nI_pos (show cst2 y < 2 ^ 31 by omega)
        rw [if_neg q]
        by_cases hc : cst2 x < cst2 y
        · have q : ¬ fc (some y) ≤ nI (cst2 x) := nI_ge hc (by omega)
          rw [if_neg q]
          simp only [hc, if_true] at e
          exact e
        · have q : fc (some y) ≤ nI (cst2 x) := nI_le (by omega) (by omega)
          rw [if_pos q]
          simp only [hc, if_false] at e
          exact e
theorem un_fin : ∀ f : Fin 32, ∀ o : Fin 32, nI (32 * f.val + o.val) >>> ((5 : Int32) &&& 31) = nI f.val ∧ nI (32 * f.val + o.val) &&& 31 = nI o.val := by decide +kernel
theorem pf_agree (h : Rel σ τ) (x y z : Int32) : E1 (D_X6_agree σ x y z) (D_X7_agree τ x y z) := by
  rcases ridc h x with hn | ⟨a, ha, rfl⟩
  · exact ⟨-1, by simp [D_X6_agree, hasR_n h hn], by simp [D_X7_agree, noR_n h hn, i10]⟩
  · rcases ridc h y with hn | ⟨b, hb, rfl⟩
    · exact ⟨-1, by simp [D_X6_agree, hasR_y h ha, i10, hasR_n h hn], by simp [D_X7_agree, noR_y h ha, noR_n h hn, i10]⟩
    · by_cases hab : nI a = nI b
      · exact ⟨-1, by simp [D_X6_agree, hasR_y h ha, hasR_y h hb, i10, hab], by simp [D_X7_agree, noR_y h ha, noR_y h hb, hab]⟩
      · rcases wic z 2 (by decide) with hn | ⟨u, hu, rfl⟩
        · have e1 : D_X6_within σ z 2 = some 0 := wi_n hn
          have e2 : D_X7_in τ z.toInt64 0 2 = some 0 := inj_n hn rfl
          exact ⟨-2, by simp [D_X6_agree, hasR_y h ha, hasR_y h hb, i10, hab, e1], by simp [D_X7_agree, noR_y h ha, noR_y h hb, hab, e2]⟩
        · have e1 : D_X6_within σ (nI u) 2 = some 1 := wj_y (n := 2) hu (by decide)
          have e2 : D_X7_in τ (nI u).toInt64 0 2 = some 1 := inj_y hu (by decide) rfl
          have m : D_X7_agree τ (nI a) (nI b) (nI u) = D_X7_agree_178 τ (nI u) (fc (WY (PA σ a b) cst2 1024)) (f1 (WY (PA σ a b) cst2 1024)) (f2 (WY (PA σ a b) cst2 1024)) := by
            unfold D_X7_agree
            rw [noR_y h ha, Option.bind_some, if_pos rfl, noR_y h hb, Option.bind_some, if_pos rfl, if_neg hab, e2, Option.bind_some, if_neg i10]
            exact agr_m h ha hb (nI u) 1024 0 FU rfl (FU_lt (by decide))
          have c : D_X6_agree σ (nI a) (nI b) (nI u) = (if enc (WY (PA σ a b) cst2 1024) = (-9 : Int32) then some (-9 : Int32) else (D_X2_firstOf σ (enc (WY (PA σ a b) cst2 1024))).bind fun y40 => (D_X2_otherOf σ (enc (WY (PA σ a b) cst2 1024))).bind fun y43 => if nI u = 0 then (D_J6_bitCount_0f7a4 σ y40).bind fun y56 => (D_J6_bitCount_0f7a4 σ y43).bind fun y58 => some (y56 + y58) else if nI u = (1 : Int32) then some y40 else some y43) := by
            unfold D_X6_agree
            rw [hasR_y h ha, Option.bind_some, if_neg i10, hasR_y h hb, Option.bind_some, if_neg i10, if_neg hab, e1, Option.bind_some, if_neg i10, ri4 h ha, gd_true, ri4 h hb, gd_true, rcl h ha, rcl h hb, agr_c h ha hb, Option.bind_some]
          rw [c, m]
          unfold D_X7_agree_178
          cases hw : WY (PA σ a b) cst2 1024 with
          | none =>
            refine ⟨-9, if_pos rfl, ?_⟩
            simp only [fc, f1, f2]
            repeat' split
            all_goals rfl
          | some n =>
            have hn := (WY_lt hw).1
            have un := un_fin ⟨n / 32, by omega⟩ ⟨n % 32, by omega⟩
            simp only [show 32 * (n / 32) + n % 32 = n by omega] at un
            rw [if_neg (fun q => by have := (enc_n9 (x := some n) (fun m hm => by cases hm; omega)).mp q; cases this)]
            unfold D_X2_firstOf D_X2_otherOf
            simp only [enc, Option.bind_some, un.1, un.2, bc_eq σ (show n / 32 < 32 by omega), bc_eq σ (show n % 32 < 32 by omega), nI_add]
            simp only [fc, f1, f2, cst2]
            repeat' split
            all_goals exact ⟨_, rfl, rfl⟩
end P8
