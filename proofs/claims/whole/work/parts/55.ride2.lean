theorem m10 (v w : Nat) : (10 : Int32) * nI v + nI w = nI (10 * v + w) := by
  rw [show (10 : Int32) = nI 10 from rfl, pk_mul, nI_add]
section PS
variable {σ τ : St}
theorem FIG {C : Nat → Option Int32} {st : St} {B n x lo hi : Nat} {T : Nat → Int32} (t : TM st B n T) (e : st 0 10 = nI x) (hl : lo ≤ 100) (hh : hi ≤ 100) (hx : x ≤ n) (hy : x < n → DG (T x) lo hi = true → C x = C (x + 1)) (hno : (x < n → DG (T x) lo hi = false) → C x = some (nI x)) : ∃ v' st', D_X7_figure st (nI B) (nI n) (nI lo) (nI hi) = some (v', st') ∧ Fr st st' ∧ ((∃ v, lo ≤ v ∧ v ≤ hi ∧ v' = nI v ∧ x < n ∧ T x = nI (48 + v) ∧ st' 0 10 = nI (x + 1) ∧ C x = C (x + 1)) ∨ (v' = -9 ∧ Bad C n st' x)) := by
  by_cases h : x < n
  · cases g : DG (T x) lo hi
    · exact ⟨_, _, fig_n t e hl hh hx (fun _ => g), Fr.up st _, Or.inr ⟨rfl, x, hx, up2_s, hno fun _ => g⟩⟩
    · obtain ⟨v, v1, v2, v3⟩ := DG_nat hh g
      exact ⟨_, _, fig_y t e hl hh h g, Fr.up st _, Or.inl ⟨v, v1, v2, by rw [v3, s48], h, v3, up2_s, hy h g⟩⟩
  · exact ⟨_, _, fig_n t e hl hh hx (fun q => absurd q h), Fr.up st _, Or.inr ⟨rfl, x, hx, up2_s, hno fun q => absurd q h⟩⟩
theorem nn9 : ¬ (0 : Int32) ≤ -9 := by decide
theorem TWO {C : Nat → Option Int32} {st : St} {B n x hi : Nat} {T : Nat → Int32} (t : TM st B n T) (e : st 0 10 = nI x) (hh : hi ≤ 9) (hx : x ≤ n) (hy : x < n → DG (T x) 0 hi = true → C x = C (x + 1)) (hno : (x < n → DG (T x) 0 hi = false) → C x = some (nI x)) (hy2 : x + 1 < n → DG (T (x + 1)) 0 9 = true → C (x + 1) = C (x + 1 + 1)) (hno2 : x + 1 ≤ n → (x + 1 < n → DG (T (x + 1)) 0 9 = false) → C (x + 1) = some (nI (x + 1))) : ∃ v' st', D_X7_twoFigures st (nI B) (nI n) (nI hi) = some (v', st') ∧ Fr st st' ∧ ((∃ v w, v ≤ hi ∧ w ≤ 9 ∧ v' = nI (10 * v + w) ∧ x + 1 < n ∧ T x = nI (48 + v) ∧ T (x + 1) = nI (48 + w) ∧ st' 0 10 = nI (x + 2) ∧ C x = C (x + 2)) ∨ (v' = -9 ∧ Bad C n st' x)) := by
  obtain ⟨u, s1, f1, f2, h1⟩ := FIG t e (lo := 0) (by decide) (by omega) hx hy hno
  unfold D_X7_twoFigures
  rw [show D_X7_figure st (nI B) (nI n) 0 (nI hi) = _ from f1, Option.bind_some]
  rcases h1 with ⟨v, v1, v2, v3, v4, v5, v6, v7⟩ | ⟨v1, y, v2, v3, v4⟩
  · obtain ⟨u2, s2, g1, g2, h2⟩ := FIG (C := C) (t.fr f2) v6 (lo := 0) (hi := 9) (by decide) (by decide) (by omega) hy2 (hno2 (by omega))
    simp only []
    rw [v3, if_pos (nI_pos' (by omega)), show D_X7_figure s1 (nI B) (nI n) 0 9 = _ from g1, Option.bind_some]
    unfold D_X7_twoFigures_29
    rcases h2 with ⟨w, w1, w2, w3, w4, w5, w6, w7⟩ | ⟨w1, y, w2, w3, w4⟩
    · refine ⟨nI (10 * v + w), s2, ?_, f2.tr g2, Or.inl ⟨v, w, v2, w2, rfl, w4, v5, w5, w6, v7.trans w7⟩⟩
      simp only []
      rw [w3, if_pos (nI_pos' (by omega)), m10]
    · refine ⟨-9, s2, ?_, f2.tr g2, Or.inr ⟨rfl, y, w2, w3, v7.trans w4⟩⟩
      simp only []
      rw [w1, if_neg nn9]
  · refine ⟨-9, s1, ?_, f2, Or.inr ⟨rfl, y, v2, v3, v4⟩⟩
    simp only []
    rw [v1, if_neg nn9]
    unfold D_X7_twoFigures_29
    rw [if_neg nn9]
end PS
