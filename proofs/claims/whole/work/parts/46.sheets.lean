/-! sheets -/
theorem isSh_y (ρ : St) {k : Nat} (h : k < 4) : D_X6_isSheet ρ (nI k) = some 1 := by
  have e : D_X6_within ρ (nI k) 3 = some 1 := wj_y (n := 3) (by omega) (by decide)
  unfold D_X6_isSheet
  rw [e]; rfl
theorem isSh_n (ρ : St) {x : Int32} (h : x < 0 ∨ nI 3 < x) : D_X6_isSheet ρ x = some 0 := by
  have e : D_X6_within ρ x 3 = some 0 := wi_n h
  unfold D_X6_isSheet
  rw [e]; rfl
theorem isLa_y (ρ : St) {k : Nat} (h : k ≤ 2) : D_X6_isLane ρ (nI k) = some 1 := by
  have e : D_X6_within ρ (nI k) 2 = some 1 := wj_y (n := 2) (by omega) (by decide)
  unfold D_X6_isLane
  rw [e]; rfl
theorem isLa_n (ρ : St) {x : Int32} (h : x < 0 ∨ nI 2 < x) : D_X6_isLane ρ x = some 0 := by
  have e : D_X6_within ρ x 2 = some 0 := wi_n h
  unfold D_X6_isLane
  rw [e]; rfl
theorem noSh_y (ρ : St) {k : Nat} (h : k < 4) : D_X7_noSheet ρ (nI k) = some 0 := by
  have e : D_X7_in ρ (nI k).toInt64 0 3 = some 1 := inj_y (n := 3) (by omega) (by decide) rfl
  unfold D_X7_noSheet
  rw [e]; rfl
theorem noSh_n (ρ : St) {x : Int32} (h : x < 0 ∨ nI 3 < x) : D_X7_noSheet ρ x = some 1 := by
  have e : D_X7_in ρ x.toInt64 0 3 = some 0 := inj_n (n := 3) h rfl
  unfold D_X7_noSheet
  rw [e]; rfl
theorem shc (x : Int32) : (x < 0 ∨ nI 3 < x) ∨ ∃ k, k < 4 ∧ x = nI k := by
  rcases wic x 3 (by decide) with h | ⟨j, h, e⟩
  · exact Or.inl h
  · exact Or.inr ⟨j, by omega, e⟩
theorem sh4 {k : Nat} (h : k < 4) : inb (nI k) 4 = true := inb_nI h (by decide)
theorem scl4 {k : Nat} (h : k < 4) : (nI k).toNatClampNeg = k := nI_clamp (by omega)
theorem up2_rc {σ τ : St} {c j : Nat} {v : Int32} (h : σ c = τ c) : up2 σ c j v c = up2 τ c j v c := by rw [up2_row, up2_row, h]
theorem i60 (k i : Nat) : (60 : Int32) * nI k + nI i = nI (60 * k + i) := by
  rw [show (60 : Int32) = nI 60 from rfl, pk_mul, nI_add]
theorem m9 : ¬ ((-1 : Int32) = nI 0) := by decide
theorem nI_nm1 {n : Nat} (h : n < 2 ^ 31) : ¬ nI n = -1 := by
  intro q; rw [eq_i, nI_toInt h] at q
  have : (-1 : Int32).toInt = -1 := by decide
  omega
section P7
variable {σ τ : St}
/-- row k's zeros -/
theorem rn_loop (k : Nat) : ∀ d i fuel (st : St), i + d = 60 → d < fuel → (∀ j, j < i → st (14 + k + 4) j = 0) → ∃ st', D_X5_renew_12 (14 + k) fuel st (nI i) = some st' ∧ (∀ c, c ≠ 14 + k + 4 → st' c = st c) ∧ ∀ j, j < 60 → st' (14 + k + 4) j = 0 := by
  intro d
  induction d with
  | zero =>
    intro i fuel st hi hf hz
    obtain ⟨f, rfl⟩ : ∃ f, fuel = f + 1 := ⟨fuel - 1, by omega⟩
    have : i = 60 := by omega
    subst this
    refine ⟨st, ?_, fun _ _ => rfl, hz⟩
    show D_X5_renew_12b _ _ _ _ = _
    unfold D_X5_renew_12b
    rw [if_pos (by decide)]
  | succ d ih =>
    intro i fuel st hi hf hz
    obtain ⟨f, rfl⟩ : ∃ f, fuel = f + 1 := ⟨fuel - 1, by omega⟩
    have q : ¬ (60 : Int32) ≤ nI i := nI_ge (b := 60) (by omega) (by decide)
    obtain ⟨st', e, h1, h2⟩ := ih (i + 1) f (up2 st (14 + k + 4) i 0) (by omega) (by omega) (fun j hj => by
      by_cases hji : j = i
      · rw [hji, up2_s]
      · rw [up2_j hji]; exact hz j (by omega))
    refine ⟨st', ?_, fun c hc => (h1 c hc).trans (up2_ne c hc), h2⟩
    show D_X5_renew_12b _ _ _ _ = _
    unfold D_X5_renew_12b
    rw [if_neg q, inb_nI (by omega) (by decide), gd_true, nI_clamp (by omega), ← nI_succ]
    exact e
theorem sm_loop (k m : Nat) (hk : k < 4) (hm : m ≤ 60) : ∀ d i fuel (st : St), i + d = m → d < fuel → (∀ j, j < i → st 20 (60 * k + j) = 0) → ∃ st', D_X7_sheet_65 (nI k) (nI m) fuel st (nI i) = D_X7_sheet_90 st' ∧ (∀ c, c ≠ 20 → st' c = st c) ∧ (∀ j, (j < 60 * k ∨ 60 * k + m ≤ j) → st' 20 j = st 20 j) ∧ ∀ j, j < m → st' 20 (60 * k + j) = 0 := by
  intro d
  induction d with
  | zero =>
    intro i fuel st hi hf hz
    obtain ⟨f, rfl⟩ : ∃ f, fuel = f + 1 := ⟨fuel - 1, by omega⟩
    have : i = m := by omega
    subst this
    refine ⟨st, ?_, fun _ _ => rfl, fun _ _ => rfl, hz⟩
    show D_X7_sheet_65b _ _ _ _ _ = _
    unfold D_X7_sheet_65b
    rw [if_pos (nI_le (Nat.le_refl _) (by omega))]
  | succ d ih =>
    intro i fuel st hi hf hz
    obtain ⟨f, rfl⟩ : ∃ f, fuel = f + 1 := ⟨fuel - 1, by omega⟩
    obtain ⟨st', e, h1, h3, h2⟩ := ih (i + 1) f (up2 st 20 (60 * k + i) 0) (by omega) (by omega) (fun j hj => by
      by_cases hji : j = i
      · rw [hji, up2_s]
      · rw [up2_j (by omega)]; exact hz j (by omega))
    refine ⟨st', ?_, fun c hc => (h1 c hc).trans (up2_ne c hc), fun j hj => (h3 j hj).trans (up2_j (by omega)), h2⟩
    show D_X7_sheet_65b _ _ _ _ _ = _
    unfold D_X7_sheet_65b
    rw [if_neg (nI_ge (by omega) (by omega)), i60, inb_nI (by omega) (by decide), gd_true, nI_clamp (by omega), ← nI_succ]
    exact e
theorem pf_sheet (h : Rel σ τ) (x y z : Int32) : E2 (D_X6_sheet σ x y z) (D_X7_sheet τ x y z) := by
  have h0 := h.fau 0
  rcases shc x with hn | ⟨k, hk, rfl⟩
  · exact ⟨-1, up2 σ 0 5 0, up2 τ 0 0 0, by simp [D_X6_sheet, isSh_n _ hn], by simp [D_X7_sheet, noSh_n _ hn, i10, D_X7_refused], h0⟩
  · rcases wic y 2 (by decide) with hn | ⟨la, hla, rfl⟩
    · have e2 : D_X7_in τ y.toInt64 0 2 = some 0 := inj_n hn rfl
      exact ⟨-2, up2 σ 0 5 0, up2 τ 0 0 0, by simp [D_X6_sheet, isSh_y _ hk, isLa_n _ hn, i10], by simp [D_X7_sheet, D_X7_sheet_31, noSh_y _ hk, e2, D_X7_refused], h0⟩
    · have e2 : D_X7_in τ (nI la).toInt64 0 2 = some 1 := inj_y hla (by decide) rfl
      by_cases hz : z ≤ 60
      · by_cases hz0 : 0 ≤ z
        · obtain ⟨m, hm, rfl⟩ := nI_of2 (M := 60) (n := 60) (by decide) (le_nlt hz0) hz
          obtain ⟨s1, e1, q1, q2⟩ := rn_loop k 60 0 FU (up2 (up2 (up2 σ 0 5 0) (14 + k) 1 (nI la)) (14 + k) 2 (nI m)) rfl (FU_lt (by decide)) (fun j hj => absurd hj (Nat.not_lt_zero j))
          obtain ⟨s2, e3, r1, r3, r2⟩ := sm_loop k m hk hm m 0 FU (up2 (up2 τ 18 k (nI m)) 19 k (nI la)) (by omega) (FU_lt (by omega)) (fun j hj => absurd hj (Nat.not_lt_zero j))
          refine ⟨1, s1, up2 s2 0 0 0, ?_, ?_, ?_⟩
          · simp only [D_X6_sheet, isSh_y _ hk, isLa_y _ hla, Option.bind_some, i10, if_false, hz, hz0, if_true, sh4 hk, gd_true, scl4 hk, D_X5_renew]
            rw [show D_X5_renew_12 (14 + k) FU (up2 (up2 (up2 σ 0 5 0) (14 + k) 1 (nI la)) (14 + k) 2 (nI m)) 0 = some s1 from e1]; rfl
          · simp only [D_X7_sheet, noSh_y _ hk, Option.bind_some, if_true, e2, i10, if_false, hz, hz0, sh4 hk, gd_true, scl4 hk]
            exact e3
          · refine h0.shs (fun c hc => ?_) (fun c c1 c2 c3 c4 => ?_) (fun c hc => ?_)
            · rw [q1 c (by omega), up2_ne c (by omega), up2_ne c (by omega)]
            · by_cases c0 : c = 0
              · subst c0
                apply up2_rc
                rw [r1 0 (by decide), up2_ne 0 (by decide), up2_ne 0 (by decide)]
              · rw [up2_ne c c0, r1 c c3, up2_ne c c2, up2_ne c c1, up2_ne c c0]
            · have o1 : up2 s2 0 0 0 18 = up2 τ 18 k (nI m) 18 := by rw [up2_ne 18 (by decide), r1 18 (by decide), up2_ne 18 (by decide)]
              have o2 : up2 s2 0 0 0 19 = up2 τ 19 k (nI la) 19 := by
                rw [up2_ne 19 (by decide), r1 19 (by decide)]
                apply up2_rc
                rw [up2_ne 19 (by decide)]
              have o3 : up2 s2 0 0 0 20 = s2 20 := up2_ne 20 (by decide)
              by_cases hck : c = k
              · subst hck
                right
                refine ⟨la, m, hla, hm, ?_, ?_, ?_, ?_, fun i hi => ?_⟩
                · rw [q1 _ (by omega), up2_j (by decide), up2_s]
                · rw [o2, up2_s]
                · rw [q1 _ (by omega), up2_s]
                · rw [o1, up2_s]
                · rw [o3, r2 i hi, show 18 + c = 14 + c + 4 by omega, q2 i (by omega)]
              · have old := h.she c hc
                unfold RelS at old ⊢
                rw [q1 (14 + c) (by omega), up2_ne (14 + c) (by omega), up2_ne (14 + c) (by omega), up2_ne (14 + c) (by omega), q1 (18 + c) (by omega), up2_ne (18 + c) (by omega), up2_ne (18 + c) (by omega), up2_ne (18 + c) (by omega), o1, o2, o3, up2_j hck, up2_j hck]
                rcases old with old | ⟨la', n', t1, t2, t3, t4, t5, t6, t7⟩
                · exact Or.inl old
                · refine Or.inr ⟨la', n', t1, t2, t3, t4, t5, t6, fun i hi => ?_⟩
                  rw [r3 _ (by omega), up2_c (by decide), up2_c (by decide)]
                  exact t7 i hi
        · exact ⟨-14, up2 (up2 σ 0 5 0) 0 5 4, up2 τ 0 0 4, by simp [D_X6_sheet, isSh_y _ hk, isLa_y _ hla, i10, hz, hz0, D_X6_failed], by simp [D_X7_sheet, noSh_y _ hk, e2, i10, hz, hz0, D_X7_failed], by rw [up2_2]; exact h.fau 4⟩
      · exact ⟨-2, up2 σ 0 5 0, up2 τ 0 0 0, by simp [D_X6_sheet, isSh_y _ hk, isLa_y _ hla, i10, hz], by simp [D_X7_sheet, D_X7_sheet_31, noSh_y _ hk, e2, i10, hz, D_X7_refused], h0⟩
/-- a sheet's change alone: sheet k anew, the others as they were -/
theorem Rel.sh1 (h : Rel σ τ) {σ' τ' : St} {k : Nat} (hk : k < 4) (hc : ∀ c, c ≠ 14 + k → c ≠ 18 + k → σ' c = σ c) (hm : ∀ c, c ≠ 18 → c ≠ 20 → τ' c = τ c) (hm1 : ∀ j, j ≠ k → τ' 18 j = τ 18 j) (hm2 : ∀ j, (j < 60 * k ∨ 60 * k + 60 ≤ j) → τ' 20 j = τ 20 j) (hs : RelS σ' τ' k) : Rel σ' τ' := by
  refine h.shs (fun c hc' => hc c (by omega) (by omega)) (fun c c1 _ c3 _ => hm c c1 c3) (fun c hc4 => ?_)
  by_cases hck : c = k
  · rw [hck]; exact hs
  · have old := h.she c hc4
    unfold RelS at old ⊢
    rw [hc (14 + c) (by omega) (by omega), hc (18 + c) (by omega) (by omega), hm1 c hck, hm 19 (by decide) (by decide)]
    rcases old with old | ⟨la', n', t1, t2, t3, t4, t5, t6, t7⟩
    · exact Or.inl old
    · refine Or.inr ⟨la', n', t1, t2, t3, t4, t5, t6, fun i hi => ?_⟩
      rw [hm2 _ (by omega)]
      exact t7 i hi
theorem pf_lose (h : Rel σ τ) (x : Int32) : E2 (D_X6_lose σ x) (D_X7_lose τ x) := by
  rcases shc x with hn | ⟨k, hk, rfl⟩
  · exact ⟨-1, σ, τ, by simp [D_X6_lose, isSh_n _ hn], by simp [D_X7_lose, noSh_n _ hn, i10], h⟩
  · rcases h.she k hk with ⟨t1, t2, t3⟩ | ⟨la, n, t1, t2, t3, t4, t5, t6, t7⟩
    · refine ⟨0, σ, up2 τ 18 k (-1), by simp [D_X6_lose, isSh_y _ hk, i10, sh4 hk, gd_true, scl4 hk, D_X5_hasRow, t1], by simp [D_X7_lose, D_X7_lose_23, noSh_y _ hk, sh4 hk, gd_true, scl4 hk, t3, show ¬ ((0 : Int32) ≤ -1) by decide], ?_⟩
      refine h.sh1 hk (fun c _ _ => rfl) (fun c c1 c2 => up2_ne c c1) (fun j hj => up2_j hj) (fun j _ => up2_c (by decide)) (Or.inl ⟨t1, t2, up2_s⟩)
    · have q : ¬ nI la = -1 := nI_nm1 (by omega)
      have q2 : (0 : Int32) ≤ nI n := nI_pos' (by omega)
      refine ⟨1, up2 (up2 σ (14 + k) 1 (-1)) (14 + k) 2 0, up2 τ 18 k (-1), by simp [D_X6_lose, isSh_y _ hk, i10, sh4 hk, gd_true, scl4 hk, D_X5_hasRow, t3, q, D_X5_drop], by simp [D_X7_lose, D_X7_lose_23, noSh_y _ hk, sh4 hk, gd_true, scl4 hk, t6, q2], ?_⟩
      refine h.sh1 hk (fun c c1 c2 => by rw [up2_ne c c1, up2_ne c c1]) (fun c c1 c2 => up2_ne c c1) (fun j hj => up2_j hj) (fun j _ => up2_c (by decide)) (Or.inl ⟨by rw [up2_j (by decide), up2_s], up2_s, up2_s⟩)
theorem hc_y (ρ : St) {c n j : Nat} (e : ρ c 2 = nI n) (hj : j < n) (hn : n ≤ 60) : D_X5_hasCell ρ c (nI j) = some 1 := by
  unfold D_X5_hasCell
  rw [e, if_neg (nI_pos (by omega)), if_neg (nI_ge hj (by omega))]
theorem hc_n (ρ : St) {c n : Nat} {x : Int32} (e : ρ c 2 = nI n) (hx : x < 0 ∨ nI n ≤ x) : D_X5_hasCell ρ c x = some 0 := by
  unfold D_X5_hasCell
  rw [e]
  by_cases h0 : x < 0
  · rw [if_pos h0]
  · rw [if_neg h0, if_pos (hx.resolve_left h0)]
theorem nc_y (ρ : St) {k n j : Nat} (hk : k < 4) (e : ρ 18 k = nI n) (hj : j < n) (hn : n ≤ 60) : D_X7_noCell ρ (nI k) (nI j) = some 0 := by
  unfold D_X7_noCell
  have q2 : (0 : Int32) ≤ nI n := nI_pos' (by omega)
  rw [sh4 hk, gd_true, gd_true, scl4 hk, e, if_pos q2, ins_y hn hj]; rfl
theorem nc_n (ρ : St) {k n : Nat} {x : Int32} (hk : k < 4) (e : ρ 18 k = nI n) (hx : x < 0 ∨ nI n ≤ x) (hn : n ≤ 60) : D_X7_noCell ρ (nI k) x = some 3 := by
  unfold D_X7_noCell
  have q2 : (0 : Int32) ≤ nI n := nI_pos' (by omega)
  rw [sh4 hk, gd_true, gd_true, scl4 hk, e, if_pos q2, ins_n hn hx]; rfl
theorem nc_0 (ρ : St) {k : Nat} (x : Int32) (hk : k < 4) (e : ρ 18 k = -1) : D_X7_noCell ρ (nI k) x = some 1 := by
  unfold D_X7_noCell
  rw [sh4 hk, gd_true, scl4 hk, e, if_neg (by decide)]
theorem n40 {k : Nat} : 14 + k ≠ 0 := by omega
theorem pf_put (h : Rel σ τ) (x y z : Int32) : E2 (D_X6_put σ x y z) (D_X7_put τ x y z) := by
  have h0 := h.fau 0
  rcases shc x with hn | ⟨k, hk, rfl⟩
  · exact ⟨-1, up2 σ 0 5 0, up2 τ 0 0 0, by simp [D_X6_put, isSh_n _ hn], by simp [D_X7_put, noSh_n _ hn, i10, D_X7_refused], h0⟩
  · rcases h.she k hk with ⟨t1, t2, t3⟩ | ⟨la, n, t1, t2, t3, t4, t5, t6, t7⟩
    · exact ⟨-11, up2 (up2 σ 0 5 0) 0 5 1, up2 τ 0 0 1, by simp [D_X6_put, isSh_y _ hk, i10, sh4 hk, gd_true, scl4 hk, D_X5_hasRow, up2_c n40, t1, D_X6_failed], by simp [D_X7_put, noSh_y _ hk, nc_0 τ y hk t3, show ¬ ((1 : Int32) ≤ 0) by decide, D_X7_failed], by rw [up2_2]; exact h.fau 1⟩
    · have q : ¬ nI la = -1 := nI_nm1 (by omega)
      have e5 : up2 σ 0 5 0 (14 + k) 2 = nI n := by rw [up2_c n40]; exact t5
      have e3 : up2 σ 0 5 0 (14 + k) 1 = nI la := by rw [up2_c n40]; exact t3
      rcases ixc y (n := n) (by omega) with hn | ⟨j, hj, rfl⟩
      · exact ⟨-13, up2 (up2 σ 0 5 0) 0 5 3, up2 τ 0 0 3, by simp [D_X6_put, isSh_y _ hk, i10, sh4 hk, gd_true, scl4 hk, D_X5_hasRow, e3, q, hc_n _ e5 hn, D_X6_failed], by simp [D_X7_put, noSh_y _ hk, nc_n τ hk t6 hn t2, show ¬ ((3 : Int32) ≤ 0) by decide, D_X7_failed], by rw [up2_2]; exact h.fau 3⟩
      · have q6 : inb (nI j) 60 = true := inb_nI (by omega) (by decide)
        have q7 : (nI j).toNatClampNeg = j := nI_clamp (by omega)
        have q8 : inb (nI (60 * k + j)) 240 = true := inb_nI (by omega) (by decide)
        have q9 : (nI (60 * k + j)).toNatClampNeg = 60 * k + j := nI_clamp (by omega)
        have key : ∀ v : Int32, Rel (up2 (up2 σ 0 5 0) (14 + k + 4) j v) (up2 (up2 τ 20 (60 * k + j) v) 0 0 0) := by
          intro v
          refine h0.sh1 hk (fun c c1 c2 => up2_ne c (by omega)) (fun c c1 c2 => ?_) (fun i _ => ?_) (fun i hi => ?_) (Or.inr ⟨la, n, t1, t2, ?_, ?_, ?_, ?_, fun i hi => ?_⟩)
          · by_cases c0 : c = 0
            · subst c0
              exact up2_rc (up2_ne 0 (by decide))
            · rw [up2_ne c c0, up2_ne c c2, up2_ne c c0]
          · rw [up2_c (by decide), up2_c (by decide), up2_c (by decide)]
          · rw [up2_c (by decide), up2_j (by omega), up2_c (by decide)]
          · rw [up2_c (by omega)]; exact e3
          · rw [up2_c (by decide), up2_c (by decide)]; exact t4
          · rw [up2_c (by omega)]; exact e5
          · rw [up2_c (by decide), up2_c (by decide)]; exact t6
          · rw [up2_c (by decide), show 18 + k = 14 + k + 4 by omega]
            by_cases hij : i = j
            · rw [hij, up2_s, up2_s]
            · rw [up2_j (by omega), up2_j hij, up2_c (by omega), show 14 + k + 4 = 18 + k by omega]
              exact t7 i hi
        rcases (show la = 0 ∨ la = 1 ∨ la = 2 by omega) with rfl | rfl | rfl
        · exact ⟨1, _, _, by simp [D_X6_put, isSh_y _ hk, i10, sh4 hk, gd_true, scl4 hk, D_X5_hasRow, e3, q, hc_y _ e5 hj t2, D_X5_write, D_X5_cutToLane, q6, q7, nI_0], by simp [D_X7_put, noSh_y _ hk, nc_y τ hk t6 hj t2, sh4 hk, gd_true, scl4 hk, t4, nI_0, D_X7_put_73, i60, q8, q9, D_X7_refused], key z.toInt8.toInt32⟩
        · have q1 : nI 1 = 1 := rfl
          exact ⟨1, _, _, by simp [D_X6_put, isSh_y _ hk, i10, sh4 hk, gd_true, scl4 hk, D_X5_hasRow, e3, q, hc_y _ e5 hj t2, D_X5_write, D_X5_cutToLane, q6, q7, q1, show ¬ ((1 : Int32) = -1) by decide], by simp [D_X7_put, noSh_y _ hk, nc_y τ hk t6 hj t2, sh4 hk, gd_true, scl4 hk, t4, q1, i10, D_X7_put_73, i60, q8, q9, D_X7_refused], key z.toInt16.toInt32⟩
        · have q1 : nI 2 = 2 := rfl
          exact ⟨1, _, _, by simp [D_X6_put, isSh_y _ hk, i10, sh4 hk, gd_true, scl4 hk, D_X5_hasRow, e3, q, hc_y _ e5 hj t2, D_X5_write, D_X5_cutToLane, q6, q7, q1, show ¬ ((2 : Int32) = -1) by decide, show ¬ ((2 : Int32) = 0) by decide, show ¬ ((2 : Int32) = 1) by decide], by simp [D_X7_put, noSh_y _ hk, nc_y τ hk t6 hj t2, sh4 hk, gd_true, scl4 hk, t4, q1, show ¬ ((2 : Int32) = 0) by decide, show ¬ ((2 : Int32) = 1) by decide, D_X7_put_73, i60, q8, q9, D_X7_refused], key z⟩
theorem at_y (ρ : St) {c n j : Nat} (e : ρ c 2 = nI n) (hj : j < n) (hn : n ≤ 60) : D_X5_at ρ c (nI j) = some (ρ (c + 4) j) := by
  unfold D_X5_at
  rw [hc_y ρ e hj hn, Option.bind_some, if_neg i10, inb_nI (by omega) (by decide), gd_true, nI_clamp (by omega)]
theorem pf_cell (h : Rel σ τ) (x y z : Int32) : E4 (D_X6_cell σ x y z) (D_X7_cell τ x y z) := by
  have h0 := h.fau 0
  rcases shc x with hn | ⟨k, hk, rfl⟩
  · exact ⟨-9223372036854775808, up2 σ 0 5 0, up2 τ 0 0 0, by simp [D_X6_cell, isSh_n _ hn], by simp [D_X7_cell, D_X7_cell_24, noSh_n _ hn, i10, D_X7_lost], h0⟩
  · rcases wic z 2 (by decide) with hn | ⟨l2, hl2, rfl⟩
    · have e2 : D_X7_in (up2 τ 0 0 0) z.toInt64 0 2 = some 0 := inj_n hn rfl
      exact ⟨-9223372036854775808, up2 σ 0 5 0, up2 τ 0 0 0, by simp [D_X6_cell, isSh_y _ hk, isLa_n _ hn, i10], by simp [D_X7_cell, D_X7_cell_24, noSh_y _ hk, e2, D_X7_lost], h0⟩
    · have e2 : D_X7_in (up2 τ 0 0 0) (nI l2).toInt64 0 2 = some 1 := inj_y hl2 (by decide) rfl
      rcases h.she k hk with ⟨t1, t2, t3⟩ | ⟨la, n, t1, t2, t3, t4, t5, t6, t7⟩
      · have u3 : up2 τ 0 0 0 18 k = -1 := by rw [up2_c (by decide)]; exact t3
        exact ⟨-9223372036854775808, up2 (up2 σ 0 5 0) 0 5 1, up2 (up2 τ 0 0 0) 0 0 1, by simp [D_X6_cell, D_X6_cell_62, isSh_y _ hk, isLa_y _ hl2, i10, sh4 hk, gd_true, scl4 hk, D_X5_faultOfRow, D_X5_hasRow, up2_c n40, t1, up2_s], by simp [D_X7_cell, noSh_y _ hk, e2, i10, sh4 hk, gd_true, scl4 hk, u3, show ((-1 : Int32) < 0) by decide, D_X7_cell_53, nc_0 _ y hk u3, show ¬ ((1 : Int32) ≤ 0) by decide, D_X7_failedLong, D_X7_lost], h0.fau 1⟩
      · have q : ¬ nI la = -1 := nI_nm1 (by omega)
        have e5 : up2 σ 0 5 0 (14 + k) 2 = nI n := by rw [up2_c n40]; exact t5
        have e3 : up2 σ 0 5 0 (14 + k) 1 = nI la := by rw [up2_c n40]; exact t3
        have u6 : up2 τ 0 0 0 18 k = nI n := by rw [up2_c (by decide)]; exact t6
        have u4 : up2 τ 0 0 0 19 k = nI la := by rw [up2_c (by decide)]; exact t4
        have q0 : ¬ nI n < 0 := nI_pos (by omega)
        by_cases hl : nI la = nI l2
        · rcases ixc y (n := n) (by omega) with hn | ⟨j, hj, rfl⟩
          · have e5' : up2 (up2 σ 0 5 0) 0 5 0 (14 + k) 2 = nI n := by rw [up2_c n40]; exact e5
            exact ⟨-9223372036854775808, up2 (up2 (up2 σ 0 5 0) 0 5 0) 0 5 3, up2 (up2 τ 0 0 0) 0 0 3, by simp [D_X6_cell, D_X6_cell_62, isSh_y _ hk, isLa_y _ hl2, i10, sh4 hk, gd_true, scl4 hk, D_X5_faultOfRow, D_X5_hasRow, e3, q, hl, up2_s, hc_n _ e5' hn, show ¬ ((3 : Int32) = 0) by decide, nI_nm1 (show l2 < 2 ^ 31 by omega)], by simp [D_X7_cell, noSh_y _ hk, e2, i10, sh4 hk, gd_true, scl4 hk, u6, q0, u4, hl, D_X7_cell_53, nc_n _ hk u6 hn t2, show ¬ ((3 : Int32) ≤ 0) by decide, D_X7_failedLong, D_X7_lost], by rw [up2_2]; exact h0.fau 3⟩
          · have e5' : up2 (up2 σ 0 5 0) 0 5 0 (14 + k) 2 = nI n := by rw [up2_c n40]; exact e5
            have q8 : inb (nI (60 * k + j)) 240 = true := inb_nI (by omega) (by decide)
            have q9 : (nI (60 * k + j)).toNatClampNeg = 60 * k + j := nI_clamp (by omega)
            have ev : up2 τ 0 0 0 20 (60 * k + j) = σ (14 + k + 4) j := by rw [up2_c (by decide), show 14 + k + 4 = 18 + k by omega]; exact t7 j hj
            refine ⟨(σ (14 + k + 4) j).toInt64, up2 (up2 σ 0 5 0) 0 5 0, up2 τ 0 0 0, ?_, ?_, by rw [up2_2]; exact h0⟩
            · simp [D_X6_cell, D_X6_cell_62, isSh_y _ hk, isLa_y _ hl2, i10, sh4 hk, gd_true, scl4 hk, D_X5_faultOfRow, D_X5_hasRow, e3, q, hl, up2_s, hc_y _ e5' hj t2, at_y _ e5' hj t2, nI_nm1 (show l2 < 2 ^ 31 by omega), up2_c (show 14 + k + 4 ≠ 0 by omega)]
            · simp [D_X7_cell, noSh_y _ hk, e2, i10, sh4 hk, gd_true, scl4 hk, u6, q0, u4, hl, D_X7_cell_53, nc_y _ hk u6 hj t2, i60, q8, q9, ev]
        · exact ⟨-9223372036854775808, up2 (up2 σ 0 5 0) 0 5 2, up2 (up2 τ 0 0 0) 0 0 2, by simp [D_X6_cell, D_X6_cell_62, isSh_y _ hk, isLa_y _ hl2, i10, sh4 hk, gd_true, scl4 hk, D_X5_faultOfRow, D_X5_hasRow, e3, q, hl, up2_s, show ¬ ((2 : Int32) = 0) by decide], by simp [D_X7_cell, noSh_y _ hk, e2, i10, sh4 hk, gd_true, scl4 hk, u6, q0, u4, hl, D_X7_failedLong, D_X7_lost], h0.fau 2⟩
/-- cells from i on, n of them, of a row of L: both sides see alike whether they are there -/
theorem bey (ρ ρ' : St) {c L : Nat} (hL : L ≤ 60) (e : ρ c 2 = nI L) (i n : Int32) : (D_X5_hasCells ρ c i n = some 0 ∧ D_X7_isBeyond ρ' i n.toInt64 (nI L) = some 1) ∨ (D_X5_hasCells ρ c i n = some 1 ∧ D_X7_isBeyond ρ' i n.toInt64 (nI L) = some 0 ∧ ∃ a b, a + b ≤ L ∧ i = nI a ∧ n = nI b) := by
  unfold D_X5_hasCells D_X7_isBeyond
  rw [e]
  by_cases h1 : i < 0
  · rw [if_pos h1, if_pos h1]; exact Or.inl ⟨rfl, rfl⟩
  · rw [if_neg h1, if_neg h1]
    obtain ⟨a, ha, rfl⟩ := nI_of h1
    by_cases h2 : n < 0
    · refine Or.inl ⟨?_, ?_⟩
      · by_cases h3 : nI L < nI a
        · rw [if_pos h3]
        · rw [if_neg h3, if_pos h2]
      · rw [if_pos]
        rw [lg_cmp_lt, Int64.lt_iff_toInt_lt, wid]
        rw [lt_i] at h2
        exact h2
    · obtain ⟨b, hb, rfl⟩ := nI_of h2
      have h2' : ¬ lg_cmp (nI b).toInt64 0 < 0 := by
        rw [lg_cmp_lt, Int64.lt_iff_toInt_lt, wid]
        rw [lt_i] at h2
        exact h2
      rw [if_neg h2', if_neg h2]
      have e6 : lg_cmp ((nI a).toInt64 + (nI b).toInt64) (nI L).toInt64 ≤ 0 ↔ a + b ≤ L := by
        rw [lg_cmp_le, nI_l ha, nI_l hb, nI_l (by omega), lN_add, pk_lLE (by omega) (by omega)]
      by_cases h3 : nI L < nI a
      · have := (nI_ltI (by omega) ha).mp h3
        rw [if_pos h3, if_neg (by rw [e6]; omega)]
        exact Or.inl ⟨rfl, rfl⟩
      · have h3' : a ≤ L := by
          rcases Nat.lt_or_ge L a with q | q
          · exact absurd (nI_lt q ha) h3
          · exact q
        rw [if_neg h3, pk_sub h3']
        by_cases h4 : nI (L - a) < nI b
        · have := (nI_ltI (by omega) hb).mp h4
          rw [if_pos h4, if_neg (by rw [e6]; omega)]
          exact Or.inl ⟨rfl, rfl⟩
        · have h5 : b ≤ L - a := by
            rcases Nat.lt_or_ge (L - a) b with q | q
            · exact absurd (nI_lt q hb) h4
            · exact q
          rw [if_neg h4, if_pos (by rw [e6]; omega)]
          exact Or.inr ⟨rfl, rfl, a, b, by omega, rfl, rfl⟩
theorem i60c (k a x : Nat) : (60 : Int32) * nI k + nI a + nI x = nI (60 * k + a + x) := by rw [i60, nI_add]
theorem cp_l1 {k a n : Nat} (hk : k < 4) (han : a + n ≤ 60) (x3 x4 : Int32) (ρ : St) : ∀ d x fuel (st : St), x + d = n → d < fuel → (∀ c, c ≠ 21 → st c = ρ c) → (∀ y, y < x → st 21 y = ρ 20 (60 * k + a + y)) → ∃ st', D_X7_copy_107 (nI k) (nI a) x3 x4 (nI n) fuel st (nI x) = D_X7_copy_141 st' x3 x4 (nI n) ∧ (∀ c, c ≠ 21 → st' c = ρ c) ∧ (∀ y, y < n → st' 21 y = ρ 20 (60 * k + a + y)) := by
  intro d
  induction d with
  | zero =>
    intro x fuel st hx hf h1 h2
    obtain ⟨f, rfl⟩ : ∃ f, fuel = f + 1 := ⟨fuel - 1, by omega⟩
    have : x = n := by omega
    subst this
    refine ⟨st, ?_, h1, h2⟩
    show D_X7_copy_107b _ _ _ _ _ _ _ _ = _
    unfold D_X7_copy_107b
    rw [if_pos (nI_le (Nat.le_refl _) (by omega))]
  | succ d ih =>
    intro x fuel st hx hf h1 h2
    obtain ⟨f, rfl⟩ : ∃ f, fuel = f + 1 := ⟨fuel - 1, by omega⟩
    obtain ⟨st', e, q1, q2⟩ := ih (x + 1) f (up2 st 21 x (st 20 (60 * k + a + x))) (by omega) (by omega) (fun c hc => (up2_ne c hc).trans (h1 c hc)) (fun y hy => by
      by_cases hyx : y = x
      · rw [hyx, up2_s, h1 20 (by decide)]
      · rw [up2_j hyx]; exact h2 y (by omega))
    refine ⟨st', ?_, q1, q2⟩
    show D_X7_copy_107b _ _ _ _ _ _ _ _ = _
    unfold D_X7_copy_107b
    rw [if_neg (nI_ge (by omega) (by omega)), i60c, inb_nI (by omega) (by decide), gd_true, inb_nI (by omega) (by decide), gd_true, nI_clamp (by omega), nI_clamp (by omega), ← nI_succ]
    exact e
theorem cp_l2 {o b n : Nat} (ho : o < 4) (hbn : b + n ≤ 60) (ρ : St) : ∀ d x fuel (st : St), x + d = n → d < fuel → (∀ c, c ≠ 20 → st c = ρ c) → (∀ i, st 20 i = if 60 * o + b ≤ i ∧ i < 60 * o + b + x then ρ 21 (i - (60 * o + b)) else ρ 20 i) → ∃ st', D_X7_copy_144 (nI o) (nI b) (nI n) fuel st (nI x) = D_X7_copy_179 st' (nI n) ∧ (∀ c, c ≠ 20 → st' c = ρ c) ∧ (∀ i, st' 20 i = if 60 * o + b ≤ i ∧ i < 60 * o + b + n then ρ 21 (i - (60 * o + b)) else ρ 20 i) := by
  intro d
  induction d with
  | zero =>
    intro x fuel st hx hf h1 h2
    obtain ⟨f, rfl⟩ : ∃ f, fuel = f + 1 := ⟨fuel - 1, by omega⟩
    have : x = n := by omega
    subst this
    refine ⟨st, ?_, h1, h2⟩
    show D_X7_copy_144b _ _ _ _ _ _ = _
    unfold D_X7_copy_144b
    rw [if_pos (nI_le (Nat.le_refl _) (by omega))]
  | succ d ih =>
    intro x fuel st hx hf h1 h2
    obtain ⟨f, rfl⟩ : ∃ f, fuel = f + 1 := ⟨fuel - 1, by omega⟩
    obtain ⟨st', e, q1, q2⟩ := ih (x + 1) f (up2 st 20 (60 * o + b + x) (st 21 x)) (by omega) (by omega) (fun c hc => (up2_ne c hc).trans (h1 c hc)) (fun i => by
      by_cases hi : i = 60 * o + b + x
      · rw [hi, up2_s, h1 21 (by decide), if_pos (by omega)]
        congr 1; omega
      · rw [up2_j hi, h2 i]
        by_cases hc : 60 * o + b ≤ i ∧ i < 60 * o + b + x
        · rw [if_pos hc, if_pos (by omega)]
        · rw [if_neg hc, if_neg (by omega)])
    refine ⟨st', ?_, q1, q2⟩
    show D_X7_copy_144b _ _ _ _ _ _ = _
    unfold D_X7_copy_144b
    rw [if_neg (nI_ge (by omega) (by omega)), i60c, inb_nI (by omega) (by decide), gd_true, inb_nI (by omega) (by decide), gd_true, nI_clamp (by omega), nI_clamp (by omega), ← nI_succ]
    exact e
theorem pf_copy (h : Rel σ τ) (p1 p2 p3 p4 p5 : Int32) : E2 (D_X6_copy σ p1 p2 p3 p4 p5) (D_X7_copy τ p1 p2 p3 p4 p5) := by
  have h0 := h.fau 0
  rcases shc p1 with hn | ⟨k, hk, rfl⟩
  · exact ⟨-1, up2 σ 0 5 0, up2 τ 0 0 0, by simp [D_X6_copy, isSh_n _ hn], by simp [D_X7_copy, D_X7_copy_14, noSh_n _ hn, i10, D_X7_refused], h0⟩
  · rcases shc p3 with hn | ⟨o, ho, rfl⟩
    · exact ⟨-1, up2 σ 0 5 0, up2 τ 0 0 0, by simp [D_X6_copy, isSh_y _ hk, i10, isSh_n _ hn], by simp [D_X7_copy, D_X7_copy_14, noSh_y _ hk, noSh_n _ hn, i10, D_X7_refused], h0⟩
    · rcases h.she k hk with ⟨t1, t2, t3⟩ | ⟨la, n, t1, t2, t3, t4, t5, t6, t7⟩
      · exact ⟨-11, up2 (up2 σ 0 5 0) 0 5 1, up2 τ 0 0 1, by simp [D_X6_copy, D_X6_copy_53, isSh_y _ hk, isSh_y _ ho, i10, sh4 hk, sh4 ho, gd_true, scl4 hk, D_X5_hasRow, up2_c n40, t1, D_X6_failed], by simp [D_X7_copy, D_X7_copy_38, noSh_y _ hk, noSh_y _ ho, sh4 hk, gd_true, scl4 hk, t3, show ((-1 : Int32) < 0) by decide, D_X7_failed], by rw [up2_2]; exact h.fau 1⟩
      · have q : ¬ nI la = -1 := nI_nm1 (by omega)
        have q0 : ¬ nI n < 0 := nI_pos (by omega)
        rcases h.she o ho with ⟨s1, s2, s3⟩ | ⟨lb, m, s1, s2, s3, s4, s5, s6, s7⟩
        · exact ⟨-11, up2 (up2 σ 0 5 0) 0 5 1, up2 τ 0 0 1, by simp [D_X6_copy, D_X6_copy_53, isSh_y _ hk, isSh_y _ ho, i10, sh4 hk, sh4 ho, gd_true, scl4 hk, scl4 ho, D_X5_hasRow, up2_c n40, t3, q, s1, D_X6_failed], by simp [D_X7_copy, D_X7_copy_38, noSh_y _ hk, noSh_y _ ho, sh4 hk, sh4 ho, gd_true, scl4 hk, scl4 ho, t6, q0, s3, show ¬ ((0 : Int32) ≤ -1) by decide, D_X7_failed], by rw [up2_2]; exact h.fau 1⟩
        · have r : ¬ nI lb = -1 := nI_nm1 (by omega)
          have r0 : (0 : Int32) ≤ nI m := nI_pos' (by omega)
          by_cases hl : nI la = nI lb
          · have e5 : up2 σ 0 5 0 (14 + k) 2 = nI n := by rw [up2_c n40]; exact t5
            have f5 : up2 σ 0 5 0 (14 + o) 2 = nI m := by rw [up2_c n40]; exact s5
            rcases bey (up2 σ 0 5 0) τ t2 e5 p2 p5 with ⟨b1, b2⟩ | ⟨b1, b2, a, w, haw, rfl, rfl⟩
            · exact ⟨-13, up2 (up2 σ 0 5 0) 0 5 3, up2 τ 0 0 3, by simp [D_X6_copy, D_X6_copy_101, isSh_y _ hk, isSh_y _ ho, i10, sh4 hk, sh4 ho, gd_true, scl4 hk, scl4 ho, D_X5_hasRow, up2_c n40, t3, s3, r, hl, b1, D_X6_failed], by simp [D_X7_copy, D_X7_copy_98, noSh_y _ hk, noSh_y _ ho, sh4 hk, sh4 ho, gd_true, scl4 hk, scl4 ho, t6, q0, s6, r0, t4, s4, hl, b2, i10, D_X7_failed], by rw [up2_2]; exact h.fau 3⟩
            · rcases bey (up2 σ 0 5 0) τ s2 f5 p4 (nI w) with ⟨c1, c2⟩ | ⟨c1, c2, b, w', hbw, rfl, ew⟩
              · exact ⟨-13, up2 (up2 σ 0 5 0) 0 5 3, up2 τ 0 0 3, by simp [D_X6_copy, D_X6_copy_101, isSh_y _ hk, isSh_y _ ho, i10, sh4 hk, sh4 ho, gd_true, scl4 hk, scl4 ho, D_X5_hasRow, up2_c n40, t3, s3, r, hl, b1, c1, D_X6_failed], by simp [D_X7_copy, D_X7_copy_98, noSh_y _ hk, noSh_y _ ho, sh4 hk, sh4 ho, gd_true, scl4 hk, scl4 ho, t6, q0, s6, r0, t4, s4, hl, b2, c2, i10, D_X7_failed], by rw [up2_2]; exact h.fau 3⟩
              · obtain ⟨w'', hw'', ew2⟩ : ∃ z, z ≤ 60 ∧ nI w = nI z := ⟨w, by omega, rfl⟩
                have hww : b + w ≤ m := by
                  have hw' : w' = w := by
                    have := congrArg Int32.toInt ew
                    rw [nI_toInt (by omega), nI_toInt (by omega)] at this
                    omega
                  omega
                obtain ⟨st1, g1, g2, g3⟩ := cp_l1 hk (show a + w ≤ 60 by omega) (nI o) (nI b) τ w 0 FU τ (by omega) (FU_lt (by omega)) (fun _ _ => rfl) (fun y hy => absurd hy (Nat.not_lt_zero y))
                obtain ⟨st2, g4, g5, g6⟩ := cp_l2 ho (show b + w ≤ 60 by omega) st1 w 0 FU st1 (by omega) (FU_lt (by omega)) (fun _ _ => rfl) (fun i => by rw [if_neg (by omega)])
                have ck : cpok (nI a) (nI b) (nI w) 60 = true := by
                  simp only [cpok, nI_clamp (show a < 2 ^ 31 by omega), nI_clamp (show b < 2 ^ 31 by omega), nI_clamp (show w < 2 ^ 31 by omega), Bool.and_eq_true, decide_eq_true_eq]
                  exact ⟨⟨⟨⟨nI_pos' (by omega), nI_pos' (by omega)⟩, nI_pos' (by omega)⟩, by omega⟩, by omega⟩
                refine ⟨nI w, cp2 (up2 σ 0 5 0) (14 + k + 4) a (14 + o + 4) b w, up2 st2 0 0 0, ?_, ?_, ?_⟩
                · simp [D_X6_copy, isSh_y _ hk, isSh_y _ ho, i10, sh4 hk, sh4 ho, gd_true, scl4 hk, scl4 ho, D_X5_hasRow, up2_c n40, t3, s3, r, hl, b1, c1, ck, nI_clamp (show a < 2 ^ 31 by omega), nI_clamp (show b < 2 ^ 31 by omega), nI_clamp (show w < 2 ^ 31 by omega)]
                · have g7 : D_X7_copy_107 (nI k) (nI a) (nI o) (nI b) (nI w) FU τ 0 = some (nI w, up2 st2 0 0 0) := by
                    refine g1.trans ?_
                    unfold D_X7_copy_141
                    refine g4.trans ?_
                    rfl
                  simp [D_X7_copy, noSh_y _ hk, noSh_y _ ho, sh4 hk, sh4 ho, gd_true, scl4 hk, scl4 ho, t6, q0, s6, r0, t4, s4, hl, b2, c2, g7]
                · have o1 : ∀ c, c ≠ 0 → c ≠ 20 → c ≠ 21 → up2 st2 0 0 0 c = τ c := fun c x1 x2 x3 => by rw [up2_ne c x1, g5 c x2, g2 c x3]
                  have o20 : ∀ i, up2 st2 0 0 0 20 i = if 60 * o + b ≤ i ∧ i < 60 * o + b + w then τ 20 (60 * k + a + (i - (60 * o + b))) else τ 20 i := fun i => by
                    rw [up2_c (by decide), g6 i, g2 20 (by decide)]
                    by_cases hc : 60 * o + b ≤ i ∧ i < 60 * o + b + w
                    · rw [if_pos hc, if_pos hc, g3 _ (by omega)]
                    · rw [if_neg hc, if_neg hc]
                  refine h0.shs (fun c hc => cp2_ne c (by omega)) (fun c x1 x2 x3 x4 => ?_) (fun c hc => ?_)
                  · by_cases c0 : c = 0
                    · subst c0
                      apply up2_rc
                      rw [g5 0 (by decide), g2 0 (by decide)]
                    · rw [o1 c c0 x3 x4, up2_ne c c0]
                  · have old := h.she c hc
                    unfold RelS at old ⊢
                    rw [cp2_ne (14 + c) (by omega), up2_ne (14 + c) (by omega), o1 18 (by decide) (by decide) (by decide), o1 19 (by decide) (by decide) (by decide)]
                    rcases old with old | ⟨lc, mc, v1, v2, v3, v4, v5, v6, v7⟩
                    · exact Or.inl old
                    · refine Or.inr ⟨lc, mc, v1, v2, v3, v4, v5, v6, fun i hi => ?_⟩
                      rw [o20]
                      by_cases hco : c = o
                      · subst hco
                        have em : mc = m := by
                          have := congrArg Int32.toInt (v5.symm.trans s5)
                          rw [nI_toInt (by omega), nI_toInt (by omega)] at this
                          omega
                        subst em
                        rw [show 18 + c = 14 + c + 4 by omega, cp2_row, va_cpy]
                        by_cases hin : b ≤ i ∧ i < b + w
                        · rw [if_pos (by omega), if_pos hin, up2_c (by omega), show 14 + k + 4 = 18 + k by omega, ← t7 _ (by omega)]
                          congr 1; omega
                        · rw [if_neg (by omega), if_neg hin, up2_c (by omega), show 14 + c + 4 = 18 + c by omega]
                          exact v7 i hi
                      · rw [cp2_ne (18 + c) (by omega), up2_ne (18 + c) (by omega), if_neg (by omega)]
                        exact v7 i hi
          · exact ⟨-12, up2 (up2 σ 0 5 0) 0 5 2, up2 τ 0 0 2, by simp [D_X6_copy, isSh_y _ hk, isSh_y _ ho, i10, sh4 hk, sh4 ho, gd_true, scl4 hk, scl4 ho, D_X5_hasRow, up2_c n40, t3, q, s3, r, hl, D_X6_failed], by simp [D_X7_copy, noSh_y _ hk, noSh_y _ ho, sh4 hk, sh4 ho, gd_true, scl4 hk, scl4 ho, t6, q0, s6, r0, t4, s4, hl, D_X7_failed], by rw [up2_2]; exact h.fau 2⟩
end P7
