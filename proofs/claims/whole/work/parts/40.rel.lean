/-! the pure side: the two states related, small facts -/
theorem lt_i (a b : Int32) : a < b ↔ a.toInt < b.toInt := Int32.lt_iff_toInt_lt
theorem le_i (a b : Int32) : a ≤ b ↔ a.toInt ≤ b.toInt := Int32.le_iff_toInt_le
theorem eq_i (a b : Int32) : a = b ↔ a.toInt = b.toInt := Int32.toInt_inj.symm
theorem inb_nI {j n : Nat} (h : j < n) (hn : n < 2 ^ 31) : inb (nI j) n = true := by
  simp [inb, nI_pos' (show j < 2 ^ 31 by omega), nI_clamp (show j < 2 ^ 31 by omega), h]
theorem i10 : ¬ ((1 : Int32) = 0) := by decide
theorem gd_true {α : Type} (x : Option α) : gd true x = x := rfl
theorem up2_s {σ : St} {c j : Nat} {v : Int32} : up2 σ c j v c j = v := by simp [up2, va_up, upd]
theorem up2_c {σ : St} {c j c' j' : Nat} {v : Int32} (h : c' ≠ c) : up2 σ c j v c' j' = σ c' j' := by simp [up2, va_up, h]
theorem up2_j {σ : St} {c j j' : Nat} {v : Int32} (h : j' ≠ j) : up2 σ c j v c j' = σ c j' := by simp [up2, va_up, upd, h]
theorem up2_at {σ : St} {c j c' j' : Nat} {v : Int32} : up2 σ c j v c' j' = if c' = c ∧ j' = j then v else σ c' j' := by
  by_cases h : c' = c
  · subst h
    by_cases h2 : j' = j
    · subst h2; simp [up2_s]
    · simp [up2_j h2, h2]
  · simp [up2_c h, h]
def sml (x : Int32) (n : Nat) : Prop := ∃ j, j ≤ n ∧ x = nI j
def nSec (σ : St) : Nat := (σ 1 4).toNatClampNeg
def nRid (σ : St) : Nat := (σ 1 5).toNatClampNeg
def nSea (σ : St) : Nat := (σ 1 3).toNatClampNeg
def nRed (σ : St) : Nat := (σ 9 3).toNatClampNeg
def RelR (σ τ : St) (a : Nat) : Prop := τ 2 a = σ (5 + a) 0 ∧ τ 3 a = σ (5 + a) 1 ∧ τ 4 a = σ (5 + a) 2 ∧ τ 5 a = σ (5 + a) 3 ∧ τ 6 a = σ (5 + a) 4 ∧ sml (σ (5 + a) 0) 2 ∧ (∃ o f, o < f ∧ f ≤ nSec σ ∧ σ (5 + a) 1 = nI o ∧ σ (5 + a) 2 = nI f) ∧ sml (σ (5 + a) 3) 79 ∧ sml (σ (5 + a) 4) 99
def RelD (σ τ : St) (i : Nat) : Prop := τ 15 i = σ 10 i ∧ τ 16 i = σ 11 i ∧ τ 17 i = σ 12 i ∧ ∃ a, a < nRid σ ∧ σ 10 i = nI a
def RelS (σ τ : St) (k : Nat) : Prop := (σ (14 + k) 1 = -1 ∧ σ (14 + k) 2 = 0 ∧ τ 18 k = -1) ∨ (∃ la n, la ≤ 2 ∧ n ≤ 60 ∧ σ (14 + k) 1 = nI la ∧ τ 19 k = nI la ∧ σ (14 + k) 2 = nI n ∧ τ 18 k = nI n ∧ ∀ i, i < n → τ 20 (60 * k + i) = σ (18 + k) i)
def Rel (σ τ : St) : Prop :=
  (σ 1 4 = nI (nSec σ) ∧ nSec σ ≤ 5) ∧ (σ 1 5 = nI (nRid σ) ∧ nRid σ ≤ 4) ∧ (σ 1 3 = nI (nSea σ) ∧ nSea σ ≤ 3) ∧ (σ 9 3 = nI (nRed σ) ∧ nRed σ ≤ 8)
  ∧ (τ 0 2 = σ 1 4 ∧ τ 0 4 = σ 1 5 ∧ τ 0 1 = σ 1 3 ∧ τ 0 22 = σ 9 3)
  ∧ (τ 0 30 = σ 0 4 ∧ τ 0 0 = σ 0 5)
  ∧ (∀ s, s < nSec σ → τ 1 s = σ 2 s ∧ sml (σ 2 s) 3)
  ∧ (∀ a, a < nRid σ → RelR σ τ a)
  ∧ (∀ i, i < nRed σ → RelD σ τ i)
  ∧ (∀ k, k < 4 → RelS σ τ k)
section P1
variable {σ τ : St}
theorem Rel.sec (h : Rel σ τ) : σ 1 4 = nI (nSec σ) := h.1.1
theorem Rel.sec5 (h : Rel σ τ) : nSec σ ≤ 5 := h.1.2
theorem Rel.rid (h : Rel σ τ) : σ 1 5 = nI (nRid σ) := h.2.1.1
theorem Rel.rid4 (h : Rel σ τ) : nRid σ ≤ 4 := h.2.1.2
theorem Rel.sea (h : Rel σ τ) : σ 1 3 = nI (nSea σ) := h.2.2.1.1
theorem Rel.sea3 (h : Rel σ τ) : nSea σ ≤ 3 := h.2.2.1.2
theorem Rel.red (h : Rel σ τ) : σ 9 3 = nI (nRed σ) := h.2.2.2.1.1
theorem Rel.red8 (h : Rel σ τ) : nRed σ ≤ 8 := h.2.2.2.1.2
theorem Rel.msec (h : Rel σ τ) : τ 0 2 = nI (nSec σ) := h.2.2.2.2.1.1.trans h.sec
theorem Rel.mrid (h : Rel σ τ) : τ 0 4 = nI (nRid σ) := h.2.2.2.2.1.2.1.trans h.rid
theorem Rel.msea (h : Rel σ τ) : τ 0 1 = nI (nSea σ) := h.2.2.2.2.1.2.2.1.trans h.sea
theorem Rel.mred (h : Rel σ τ) : τ 0 22 = nI (nRed σ) := h.2.2.2.2.1.2.2.2.trans h.red
theorem Rel.tr (h : Rel σ τ) : τ 0 30 = σ 0 4 := h.2.2.2.2.2.1.1
theorem Rel.fa (h : Rel σ τ) : τ 0 0 = σ 0 5 := h.2.2.2.2.2.1.2
theorem Rel.slo (h : Rel σ τ) : ∀ s, s < nSec σ → τ 1 s = σ 2 s ∧ sml (σ 2 s) 3 := h.2.2.2.2.2.2.1
theorem Rel.rdr (h : Rel σ τ) : ∀ a, a < nRid σ → RelR σ τ a := h.2.2.2.2.2.2.2.1
theorem Rel.rea (h : Rel σ τ) : ∀ i, i < nRed σ → RelD σ τ i := h.2.2.2.2.2.2.2.2.1
theorem Rel.she (h : Rel σ τ) : ∀ k, k < 4 → RelS σ τ k := h.2.2.2.2.2.2.2.2.2
/-- what neither side looks at may change; trace and fault as told -/
theorem Rel.fr (h : Rel σ τ) {σ' τ' : St} (hc : ∀ k, k ≠ 0 → k ≠ 4 → k ≠ 22 → σ' k = σ k) (hm : ∀ k, k ≠ 0 → ¬ (7 ≤ k ∧ k ≤ 14) → k ≠ 21 → τ' k = τ k) (hm0 : τ' 0 1 = τ 0 1 ∧ τ' 0 2 = τ 0 2 ∧ τ' 0 4 = τ 0 4 ∧ τ' 0 22 = τ 0 22) (ht : τ' 0 30 = σ' 0 4) (hf : τ' 0 0 = σ' 0 5) : Rel σ' τ' := by
  obtain ⟨h1, h2, h3, h4, h5, h6, h7, h8, h9, h10⟩ := h
  have c1 := hc 1 (by decide) (by decide) (by decide)
  have c9 := hc 9 (by decide) (by decide) (by decide)
  have e1 : nSec σ' = nSec σ := by simp [nSec, c1]
  have e2 : nRid σ' = nRid σ := by simp [nRid, c1]
  have e3 : nSea σ' = nSea σ := by simp [nSea, c1]
  have e4 : nRed σ' = nRed σ := by simp [nRed, c9]
  refine ⟨by rw [e1, c1]; exact h1, by rw [e2, c1]; exact h2, by rw [e3, c1]; exact h3, by rw [e4, c9]; exact h4, ?_, ⟨ht, hf⟩, ?_, ?_, ?_, ?_⟩
  · rw [hm0.1, hm0.2.1, hm0.2.2.1, hm0.2.2.2, c1, c9]; exact h5
  · intro s hs
    rw [e1] at hs
    rw [hm 1 (by decide) (by decide) (by decide), hc 2 (by decide) (by decide) (by decide)]
    exact h7 s hs
  · intro a ha
    rw [e2] at ha
    have := h8 a ha
    unfold RelR at this ⊢
    rw [hm 2 (by decide) (by decide) (by decide), hm 3 (by decide) (by decide) (by decide), hm 4 (by decide) (by decide) (by decide), hm 5 (by decide) (by decide) (by decide), hm 6 (by decide) (by decide) (by decide), e1]
    have ha4 := h2.2
    rw [hc (5 + a) (by omega) (by omega) (by omega)]
    exact this
  · intro i hi
    rw [e4] at hi
    have := h9 i hi
    unfold RelD at this ⊢
    rw [hm 15 (by decide) (by decide) (by decide), hm 16 (by decide) (by decide) (by decide), hm 17 (by decide) (by decide) (by decide), e2, hc 10 (by decide) (by decide) (by decide), hc 11 (by decide) (by decide) (by decide), hc 12 (by decide) (by decide) (by decide)]
    exact this
  · intro k hk
    have := h10 k hk
    unfold RelS at this ⊢
    rw [hm 18 (by decide) (by decide) (by decide), hm 19 (by decide) (by decide) (by decide), hm 20 (by decide) (by decide) (by decide), hc (14 + k) (by omega) (by omega) (by omega), hc (18 + k) (by omega) (by omega) (by omega)]
    exact this
theorem Rel.fau (h : Rel σ τ) (x : Int32) : Rel (up2 σ 0 5 x) (up2 τ 0 0 x) :=
  h.fr (fun k a _ _ => up2_ne k a) (fun k a _ _ => up2_ne k a) ⟨up2_j (by decide), up2_j (by decide), up2_j (by decide), up2_j (by decide)⟩ (by rw [up2_j (by decide), up2_j (by decide)]; exact h.tr) (by rw [up2_s, up2_s])
theorem Rel.tra (h : Rel σ τ) (x : Int32) : Rel (up2 σ 0 4 x) (up2 τ 0 30 x) :=
  h.fr (fun k a _ _ => up2_ne k a) (fun k a _ _ => up2_ne k a) ⟨up2_j (by decide), up2_j (by decide), up2_j (by decide), up2_j (by decide)⟩ (by rw [up2_s, up2_s]) (by rw [up2_j (by decide), up2_j (by decide)]; exact h.fa)
/-- a number is no place of n, or it is one -/
theorem ixc (x : Int32) {n : Nat} (hn : n < 2 ^ 31) : (x < 0 ∨ nI n ≤ x) ∨ ∃ j : Nat, j < n ∧ x = nI j := by
  rcases pk_ix x hn with h | h | h
  · exact Or.inl (Or.inl h)
  · exact Or.inl (Or.inr h)
  · exact Or.inr h
theorem wic (x : Int32) (n : Nat) (hn : n < 2 ^ 31 - 1) : (x < 0 ∨ nI n < x) ∨ ∃ j : Nat, j ≤ n ∧ x = nI j := by
  rcases pk_ix x (n := n + 1) (by omega) with h | h | ⟨j, h, e⟩
  · exact Or.inl (Or.inl h)
  · refine Or.inl (Or.inr ?_)
    rw [le_i, nI_toInt (by omega)] at h
    rw [lt_i, nI_toInt (by omega)]
    omega
  · exact Or.inr ⟨j, by omega, e⟩
theorem hasR_n (h : Rel σ τ) {x : Int32} (hx : x < 0 ∨ nI (nRid σ) ≤ x) : D_X2_hasRider σ x = some 0 := by
  unfold D_X2_hasRider
  rw [h.rid]
  by_cases h0 : x < 0
  · rw [if_pos h0]
  · rw [if_neg h0, if_pos (hx.resolve_left h0)]
theorem hasR_y (h : Rel σ τ) {j : Nat} (hj : j < nRid σ) : D_X2_hasRider σ (nI j) = some 1 := by
  have := h.rid4
  unfold D_X2_hasRider
  rw [h.rid, if_neg (nI_pos (by omega)), if_neg (nI_ge hj (by omega))]
theorem hasS_n (h : Rel σ τ) {x : Int32} (hx : x < 0 ∨ nI (nSec σ) ≤ x) : D_X2_hasSection σ x = some 0 := by
  unfold D_X2_hasSection
  rw [h.sec]
  by_cases h0 : x < 0
  · rw [if_pos h0]
  · rw [if_neg h0, if_pos (hx.resolve_left h0)]
theorem hasS_y (h : Rel σ τ) {j : Nat} (hj : j < nSec σ) : D_X2_hasSection σ (nI j) = some 1 := by
  have := h.sec5
  unfold D_X2_hasSection
  rw [h.sec, if_neg (nI_pos (by omega)), if_neg (nI_ge hj (by omega))]
theorem wid (x : Int32) : x.toInt64.toInt = x.toInt := Int32.toInt_toInt64 x
theorem in_y {ρ : St} {x lo hi : Int32} {a b : Int64} (ha : lo.toInt64 = a) (hb : hi.toInt64 = b) (h1 : lo ≤ x) (h2 : x ≤ hi) : D_X7_in ρ x.toInt64 a b = some 1 := by
  subst ha; subst hb
  rw [le_i] at h1 h2
  unfold D_X7_in
  rw [if_neg (by rw [lg_cmp_lt, Int64.lt_iff_toInt_lt, wid, wid]; omega), if_neg (by rw [lg_cmp_gt, Int64.lt_iff_toInt_lt, wid, wid]; omega)]
theorem in_n {ρ : St} {x lo hi : Int32} {a b : Int64} (ha : lo.toInt64 = a) (hb : hi.toInt64 = b) (h : x < lo ∨ hi < x) : D_X7_in ρ x.toInt64 a b = some 0 := by
  subst ha; subst hb
  rw [lt_i, lt_i] at h
  unfold D_X7_in
  by_cases h0 : x.toInt < lo.toInt
  · rw [if_pos (by rw [lg_cmp_lt, Int64.lt_iff_toInt_lt, wid, wid]; exact h0)]
  · rw [if_neg (by rw [lg_cmp_lt, Int64.lt_iff_toInt_lt, wid, wid]; exact h0), if_pos (by rw [lg_cmp_gt, Int64.lt_iff_toInt_lt, wid, wid]; omega)]
theorem lm1 : ∀ n, n ≤ 60 → (nI n - 1).toInt64 = (nI n).toInt64 - 1 := by
  have h : ∀ n : Fin 61, (nI n.val - 1).toInt64 = (nI n.val).toInt64 - 1 := by decide +kernel
  exact fun n hn => h ⟨n, by omega⟩
theorem im1 : ∀ n, n ≤ 60 → (nI n - 1).toInt = (n : Int) - 1 := by
  have h : ∀ n : Fin 61, (nI n.val - 1).toInt = (n.val : Int) - 1 := by decide +kernel
  exact fun n hn => h ⟨n, by omega⟩
theorem ins_y {ρ : St} {n j : Nat} (hn : n ≤ 60) (hj : j < n) : D_X7_in ρ (nI j).toInt64 0 ((nI n).toInt64 - 1) = some 1 :=
  in_y (lo := 0) (hi := nI n - 1) rfl (lm1 n hn) (nI_pos' (by omega)) (by rw [le_i, im1 n hn, nI_toInt (by omega)]; omega)
theorem ins_n {ρ : St} {n : Nat} {x : Int32} (hn : n ≤ 60) (hx : x < 0 ∨ nI n ≤ x) : D_X7_in ρ x.toInt64 0 ((nI n).toInt64 - 1) = some 0 := by
  refine in_n (lo := 0) (hi := nI n - 1) rfl (lm1 n hn) (hx.imp id fun h => ?_)
  rw [le_i, nI_toInt (by omega)] at h
  rw [lt_i, im1 n hn]
  omega
theorem noR_n (h : Rel σ τ) {x : Int32} (hx : x < 0 ∨ nI (nRid σ) ≤ x) : D_X7_noRider τ x = some 1 := by
  have := h.rid4
  unfold D_X7_noRider
  rw [h.mrid, ins_n (by omega) hx]; rfl
theorem noR_y (h : Rel σ τ) {j : Nat} (hj : j < nRid σ) : D_X7_noRider τ (nI j) = some 0 := by
  have := h.rid4
  unfold D_X7_noRider
  rw [h.mrid, ins_y (by omega) hj]; rfl
theorem noS_n (h : Rel σ τ) {x : Int32} (hx : x < 0 ∨ nI (nSec σ) ≤ x) : D_X7_noSection τ x = some 1 := by
  have := h.sec5
  unfold D_X7_noSection
  rw [h.msec, ins_n (by omega) hx]; rfl
theorem noS_y (h : Rel σ τ) {j : Nat} (hj : j < nSec σ) : D_X7_noSection τ (nI j) = some 0 := by
  have := h.sec5
  unfold D_X7_noSection
  rw [h.msec, ins_y (by omega) hj]; rfl
theorem wi_y {ρ : St} {x t : Int32} (h1 : 0 ≤ x) (h2 : x ≤ t) : D_X6_within ρ x t = some 1 := by
  rw [le_i] at h1 h2
  unfold D_X6_within
  rw [if_neg (by rw [lt_i]; omega), if_neg (by rw [lt_i]; omega)]
theorem wi_n {ρ : St} {x t : Int32} (h : x < 0 ∨ t < x) : D_X6_within ρ x t = some 0 := by
  unfold D_X6_within
  by_cases h0 : x < 0
  · rw [if_pos h0]
  · rw [if_neg h0, if_pos (h.resolve_left h0)]
theorem wj_y {ρ : St} {j n : Nat} (h : j ≤ n) (hn : n < 2 ^ 31) : D_X6_within ρ (nI j) (nI n) = some 1 := wi_y (nI_pos' (by omega)) (nI_le h hn)
theorem inj_y {ρ : St} {j n : Nat} (h : j ≤ n) (hn : n < 2 ^ 31) {b : Int64} (hb : (nI n).toInt64 = b) : D_X7_in ρ (nI j).toInt64 0 b = some 1 := in_y (lo := 0) (hi := nI n) rfl hb (nI_pos' (by omega)) (nI_le h hn)
theorem inj_n {ρ : St} {x : Int32} {n : Nat} (h : x < 0 ∨ nI n < x) {b : Int64} (hb : (nI n).toInt64 = b) : D_X7_in ρ x.toInt64 0 b = some 0 := in_n (lo := 0) (hi := nI n) rfl hb h
end P1
