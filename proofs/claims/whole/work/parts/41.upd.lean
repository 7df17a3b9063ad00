/-! how the relation goes through the changes -/
section P2
variable {σ τ : St}
theorem nSec_of {σ' : St} (h : σ' 1 4 = σ 1 4) : nSec σ' = nSec σ := by simp [nSec, h]
theorem nRid_of {σ' : St} (h : σ' 1 5 = σ 1 5) : nRid σ' = nRid σ := by simp [nRid, h]
theorem nSea_of {σ' : St} (h : σ' 1 3 = σ 1 3) : nSea σ' = nSea σ := by simp [nSea, h]
theorem nRed_of {σ' : St} (h : σ' 9 3 = σ 9 3) : nRed σ' = nRed σ := by simp [nRed, h]
theorem Rel.slp (h : Rel σ τ) {s v : Nat} (hs : s < nSec σ) (hv : v ≤ 3) : Rel (up2 σ 2 s (nI v)) (up2 τ 1 s (nI v)) := by
  obtain ⟨h1, h2, h3, h4, h5, h6, h7, h8, h9, h10⟩ := h
  have hc : ∀ k, k ≠ 2 → up2 σ 2 s (nI v) k = σ k := fun k hk => up2_ne k hk
  have hm : ∀ k, k ≠ 1 → up2 τ 1 s (nI v) k = τ k := fun k hk => up2_ne k hk
  have e1 : nSec (up2 σ 2 s (nI v)) = nSec σ := nSec_of (by rw [hc 1 (by decide)])
  have e2 : nRid (up2 σ 2 s (nI v)) = nRid σ := nRid_of (by rw [hc 1 (by decide)])
  have e3 : nSea (up2 σ 2 s (nI v)) = nSea σ := nSea_of (by rw [hc 1 (by decide)])
  have e4 : nRed (up2 σ 2 s (nI v)) = nRed σ := nRed_of (by rw [hc 9 (by decide)])
  refine ⟨by rw [e1, hc 1 (by decide)]; exact h1, by rw [e2, hc 1 (by decide)]; exact h2, by rw [e3, hc 1 (by decide)]; exact h3, by rw [e4, hc 9 (by decide)]; exact h4, by rw [hm 0 (by decide), hc 1 (by decide), hc 9 (by decide)]; exact h5, by rw [hm 0 (by decide), hc 0 (by decide)]; exact h6, ?_, ?_, ?_, ?_⟩
  · intro z hz
    rw [e1] at hz
    by_cases hzs : z = s
    · subst hzs
      rw [up2_s, up2_s]
      exact ⟨rfl, v, hv, rfl⟩
    · rw [up2_j hzs, up2_j hzs]
      exact h7 z hz
  · intro a ha
    rw [e2] at ha
    have := h8 a ha
    unfold RelR at this ⊢
    rw [hm 2 (by decide), hm 3 (by decide), hm 4 (by decide), hm 5 (by decide), hm 6 (by decide), e1, hc (5 + a) (by omega)]
    exact this
  · intro i hi
    rw [e4] at hi
    have := h9 i hi
    unfold RelD at this ⊢
    rw [hm 15 (by decide), hm 16 (by decide), hm 17 (by decide), e2, hc 10 (by decide), hc 11 (by decide), hc 12 (by decide)]
    exact this
  · intro k hk
    have := h10 k hk
    unfold RelS at this ⊢
    rw [hm 18 (by decide), hm 19 (by decide), hm 20 (by decide), hc (14 + k) (by omega), hc (18 + k) (by omega)]
    exact this
theorem Rel.seat (h : Rel σ τ) {v : Nat} (hv : v ≤ 3) : Rel (up2 σ 1 3 (nI v)) (up2 τ 0 1 (nI v)) := by
  obtain ⟨h1, h2, h3, h4, h5, h6, h7, h8, h9, h10⟩ := h
  have hc : ∀ k, k ≠ 1 → up2 σ 1 3 (nI v) k = σ k := fun k hk => up2_ne k hk
  have hm : ∀ k, k ≠ 0 → up2 τ 0 1 (nI v) k = τ k := fun k hk => up2_ne k hk
  have e1 : nSec (up2 σ 1 3 (nI v)) = nSec σ := nSec_of (by rw [up2_j (by decide)])
  have e2 : nRid (up2 σ 1 3 (nI v)) = nRid σ := nRid_of (by rw [up2_j (by decide)])
  have e3 : nSea (up2 σ 1 3 (nI v)) = v := by simp only [nSea, up2_s]; exact nI_clamp (by omega)
  have e4 : nRed (up2 σ 1 3 (nI v)) = nRed σ := nRed_of (by rw [hc 9 (by decide)])
  refine ⟨by rw [e1, up2_j (by decide)]; exact h1, by rw [e2, up2_j (by decide)]; exact h2, by rw [e3, up2_s]; exact ⟨rfl, hv⟩, by rw [e4, hc 9 (by decide)]; exact h4, ?_, by rw [up2_j (by decide), up2_j (by decide), hc 0 (by decide)]; exact h6, ?_, ?_, ?_, ?_⟩
  · refine ⟨?_, ?_, ?_, ?_⟩
    · rw [up2_j (by decide), up2_j (by decide)]; exact h5.1
    · rw [up2_j (by decide), up2_j (by decide)]; exact h5.2.1
    · rw [up2_s, up2_s]
    · rw [up2_j (by decide), hc 9 (by decide)]; exact h5.2.2.2
  · intro z hz
    rw [e1] at hz
    rw [hm 1 (by decide), hc 2 (by decide)]
    exact h7 z hz
  · intro a ha
    rw [e2] at ha
    have := h8 a ha
    unfold RelR at this ⊢
    rw [hm 2 (by decide), hm 3 (by decide), hm 4 (by decide), hm 5 (by decide), hm 6 (by decide), e1, hc (5 + a) (by omega)]
    exact this
  · intro i hi
    rw [e4] at hi
    have := h9 i hi
    unfold RelD at this ⊢
    rw [hm 15 (by decide), hm 16 (by decide), hm 17 (by decide), e2, hc 10 (by decide), hc 11 (by decide), hc 12 (by decide)]
    exact this
  · intro k hk
    have := h10 k hk
    unfold RelS at this ⊢
    rw [hm 18 (by decide), hm 19 (by decide), hm 20 (by decide), hc (14 + k) (by omega), hc (18 + k) (by omega)]
    exact this
/-- a rider's field j, which the model holds in row r -/
theorem Rel.rfi (h : Rel σ τ) {a j r n v : Nat} (ha : a < nRid σ) (hv : v ≤ n) (hj : (j = 0 ∧ r = 2 ∧ n = 2) ∨ (j = 3 ∧ r = 5 ∧ n = 79) ∨ (j = 4 ∧ r = 6 ∧ n = 99)) : Rel (up2 σ (5 + a) j (nI v)) (up2 τ r a (nI v)) := by
  obtain ⟨h1, h2, h3, h4, h5, h6, h7, h8, h9, h10⟩ := h
  have ha4 := h2.2
  have hc : ∀ k, k ≠ 5 + a → up2 σ (5 + a) j (nI v) k = σ k := fun k hk => up2_ne k hk
  have hm : ∀ k, k ≠ r → up2 τ r a (nI v) k = τ k := fun k hk => up2_ne k hk
  have e1 : nSec (up2 σ (5 + a) j (nI v)) = nSec σ := nSec_of (by rw [hc 1 (by omega)])
  have e2 : nRid (up2 σ (5 + a) j (nI v)) = nRid σ := nRid_of (by rw [hc 1 (by omega)])
  have e3 : nSea (up2 σ (5 + a) j (nI v)) = nSea σ := nSea_of (by rw [hc 1 (by omega)])
  have e4 : nRed (up2 σ (5 + a) j (nI v)) = nRed σ := nRed_of (by rw [hc 9 (by omega)])
  refine ⟨by rw [e1, hc 1 (by omega)]; exact h1, by rw [e2, hc 1 (by omega)]; exact h2, by rw [e3, hc 1 (by omega)]; exact h3, by rw [e4, hc 9 (by omega)]; exact h4, by rw [hm 0 (by omega), hc 1 (by omega), hc 9 (by omega)]; exact h5, by rw [hm 0 (by omega), hc 0 (by omega)]; exact h6, ?_, ?_, ?_, ?_⟩
  · intro z hz
    rw [e1] at hz
    rw [hm 1 (by omega), hc 2 (by omega)]
    exact h7 z hz
  · intro b hb
    rw [e2] at hb
    have := h8 b hb
    unfold RelR at this ⊢
    rw [e1]
    by_cases hab : b = a
    · subst hab
      obtain ⟨t1, t2, t3, t4, t5, t6, t7, t8, t9⟩ := this
      have hs : sml (nI v) n := ⟨v, hv, rfl⟩
      rcases hj with ⟨rfl, rfl, rfl⟩ | ⟨rfl, rfl, rfl⟩ | ⟨rfl, rfl, rfl⟩
      · rw [hm 3 (by omega), hm 4 (by omega), hm 5 (by omega), hm 6 (by omega), up2_s, up2_s, up2_j (by decide), up2_j (by decide), up2_j (by decide), up2_j (by decide)]
        exact ⟨rfl, t2, t3, t4, t5, hs, t7, t8, t9⟩
      · rw [hm 2 (by omega), hm 3 (by omega), hm 4 (by omega), hm 6 (by omega), up2_s, up2_s, up2_j (by decide), up2_j (by decide), up2_j (by decide), up2_j (by decide)]
        exact ⟨t1, t2, t3, rfl, t5, t6, t7, hs, t9⟩
      · rw [hm 2 (by omega), hm 3 (by omega), hm 4 (by omega), hm 5 (by omega), up2_s, up2_s, up2_j (by decide), up2_j (by decide), up2_j (by decide), up2_j (by decide)]
        exact ⟨t1, t2, t3, t4, rfl, t6, t7, t8, hs⟩
    · rw [hc (5 + b) (by omega)]
      rcases hj with ⟨rfl, rfl, rfl⟩ | ⟨rfl, rfl, rfl⟩ | ⟨rfl, rfl, rfl⟩
      · rw [up2_j hab, hm 3 (by omega), hm 4 (by omega), hm 5 (by omega), hm 6 (by omega)]; exact this
      · rw [up2_j hab, hm 2 (by omega), hm 3 (by omega), hm 4 (by omega), hm 6 (by omega)]; exact this
      · rw [up2_j hab, hm 2 (by omega), hm 3 (by omega), hm 4 (by omega), hm 5 (by omega)]; exact this
  · intro i hi
    rw [e4] at hi
    have := h9 i hi
    unfold RelD at this ⊢
    rw [hm 15 (by omega), hm 16 (by omega), hm 17 (by omega), e2, hc 10 (by omega), hc 11 (by omega), hc 12 (by omega)]
    exact this
  · intro k hk
    have := h10 k hk
    unfold RelS at this ⊢
    rw [hm 18 (by omega), hm 19 (by omega), hm 20 (by omega), hc (14 + k) (by omega), hc (18 + k) (by omega)]
    exact this
theorem Rel.kin (h : Rel σ τ) {a v : Nat} (ha : a < nRid σ) (hv : v ≤ 2) : Rel (up2 σ (5 + a) 0 (nI v)) (up2 τ 2 a (nI v)) := h.rfi ha hv (Or.inl ⟨rfl, rfl, rfl⟩)
theorem Rel.age (h : Rel σ τ) {a v : Nat} (ha : a < nRid σ) (hv : v ≤ 79) : Rel (up2 σ (5 + a) 3 (nI v)) (up2 τ 5 a (nI v)) := h.rfi ha hv (Or.inr (Or.inl ⟨rfl, rfl, rfl⟩))
theorem Rel.wan (h : Rel σ τ) {a v : Nat} (ha : a < nRid σ) (hv : v ≤ 99) : Rel (up2 σ (5 + a) 4 (nI v)) (up2 τ 6 a (nI v)) := h.rfi ha hv (Or.inr (Or.inr ⟨rfl, rfl, rfl⟩))
/-- the readings anew: n of them -/
theorem Rel.rds (h : Rel σ τ) {σ' τ' : St} (hc : ∀ k, k ≠ 9 → k ≠ 10 → k ≠ 11 → k ≠ 12 → σ' k = σ k) (hm : ∀ k, k ≠ 0 → k ≠ 15 → k ≠ 16 → k ≠ 17 → τ' k = τ k) (hm0 : ∀ j, j ≠ 22 → τ' 0 j = τ 0 j) {n : Nat} (hn : n ≤ 8) (e : σ' 9 3 = nI n) (e2 : τ' 0 22 = nI n) (hr : ∀ i, i < n → RelD σ' τ' i) : Rel σ' τ' := by
  obtain ⟨h1, h2, h3, h4, h5, h6, h7, h8, h9, h10⟩ := h
  have c1 := hc 1 (by decide) (by decide) (by decide) (by decide)
  have e1 : nSec σ' = nSec σ := nSec_of (by rw [c1])
  have e2' : nRid σ' = nRid σ := nRid_of (by rw [c1])
  have e3 : nSea σ' = nSea σ := nSea_of (by rw [c1])
  have e4 : nRed σ' = n := by simp only [nRed, e]; exact nI_clamp (by omega)
  refine ⟨by rw [e1, c1]; exact h1, by rw [e2', c1]; exact h2, by rw [e3, c1]; exact h3, by rw [e4]; exact ⟨e, hn⟩, ?_, ?_, ?_, ?_, ?_, ?_⟩
  · rw [hm0 2 (by decide), hm0 4 (by decide), hm0 1 (by decide), c1, e, e2]
    exact ⟨h5.1, h5.2.1, h5.2.2.1, rfl⟩
  · rw [hm0 30 (by decide), hm0 0 (by decide), hc 0 (by decide) (by decide) (by decide) (by decide)]; exact h6
  · intro z hz
    rw [e1] at hz
    rw [hm 1 (by decide) (by decide) (by decide) (by decide), hc 2 (by decide) (by decide) (by decide) (by decide)]
    exact h7 z hz
  · intro a ha
    rw [e2'] at ha
    have := h8 a ha
    have ha4 := h2.2
    unfold RelR at this ⊢
    rw [hm 2 (by decide) (by decide) (by decide) (by decide), hm 3 (by decide) (by decide) (by decide) (by decide), hm 4 (by decide) (by decide) (by decide) (by decide), hm 5 (by decide) (by decide) (by decide) (by decide), hm 6 (by decide) (by decide) (by decide) (by decide), e1, hc (5 + a) (by omega) (by omega) (by omega) (by omega)]
    exact this
  · intro i hi
    rw [e4] at hi
    exact hr i hi
  · intro k hk
    have := h10 k hk
    unfold RelS at this ⊢
    rw [hm 18 (by decide) (by decide) (by decide) (by decide), hm 19 (by decide) (by decide) (by decide) (by decide), hm 20 (by decide) (by decide) (by decide) (by decide), hc (14 + k) (by omega) (by omega) (by omega) (by omega), hc (18 + k) (by omega) (by omega) (by omega) (by omega)]
    exact this
/-- the sheets anew -/
theorem Rel.shs (h : Rel σ τ) {σ' τ' : St} (hc : ∀ k, (k < 14 ∨ 22 ≤ k) → σ' k = σ k) (hm : ∀ k, k ≠ 18 → k ≠ 19 → k ≠ 20 → k ≠ 21 → τ' k = τ k) (hs : ∀ k, k < 4 → RelS σ' τ' k) : Rel σ' τ' := by
  obtain ⟨h1, h2, h3, h4, h5, h6, h7, h8, h9, h10⟩ := h
  have c1 := hc 1 (by decide)
  have c9 := hc 9 (by decide)
  have e1 : nSec σ' = nSec σ := nSec_of (by rw [c1])
  have e2 : nRid σ' = nRid σ := nRid_of (by rw [c1])
  have e3 : nSea σ' = nSea σ := nSea_of (by rw [c1])
  have e4 : nRed σ' = nRed σ := nRed_of (by rw [c9])
  refine ⟨by rw [e1, c1]; exact h1, by rw [e2, c1]; exact h2, by rw [e3, c1]; exact h3, by rw [e4, c9]; exact h4, by rw [hm 0 (by decide) (by decide) (by decide) (by decide), c1, c9]; exact h5, by rw [hm 0 (by decide) (by decide) (by decide) (by decide), hc 0 (by decide)]; exact h6, ?_, ?_, ?_, hs⟩
  · intro z hz
    rw [e1] at hz
    rw [hm 1 (by decide) (by decide) (by decide) (by decide), hc 2 (by decide)]
    exact h7 z hz
  · intro a ha
    rw [e2] at ha
    have := h8 a ha
    have ha4 := h2.2
    unfold RelR at this ⊢
    rw [hm 2 (by decide) (by decide) (by decide) (by decide), hm 3 (by decide) (by decide) (by decide) (by decide), hm 4 (by decide) (by decide) (by decide) (by decide), hm 5 (by decide) (by decide) (by decide) (by decide), hm 6 (by decide) (by decide) (by decide) (by decide), e1, hc (5 + a) (by omega)]
    exact this
  · intro i hi
    rw [e4] at hi
    have := h9 i hi
    unfold RelD at this ⊢
    rw [hm 15 (by decide) (by decide) (by decide) (by decide), hm 16 (by decide) (by decide) (by decide) (by decide), hm 17 (by decide) (by decide) (by decide) (by decide), e2, hc 10 (by decide), hc 11 (by decide), hc 12 (by decide)]
    exact this
end P2
def E1 (a b : Option Int32) : Prop := ∃ r, a = some r ∧ b = some r
def E2 (a b : Option (Int32 × St)) : Prop := ∃ r σ' τ', a = some (r, σ') ∧ b = some (r, τ') ∧ Rel σ' τ'
def E3 (a b : Option Int64) : Prop := ∃ r, a = some r ∧ b = some r
def E4 (a b : Option (Int64 × St)) : Prop := ∃ r σ' τ', a = some (r, σ') ∧ b = some (r, τ') ∧ Rel σ' τ'
