section PE
variable {σ τ : St}
/-- off rows 13 and 14 nothing has changed -/
def Off (τ st : St) : Prop := ∀ c, c ≠ 13 → c ≠ 14 → st c = τ c
theorem Off.rel (h : Rel σ τ) {st : St} (o : Off τ st) : Rel σ st :=
  h.fr (fun _ _ _ _ => rfl) (fun c _ c2 _ => o c (by omega) (by omega)) (by rw [o 0 (by decide) (by decide)]; exact ⟨rfl, rfl, rfl, rfl⟩) (by rw [o 0 (by decide) (by decide)]; exact h.tr) (by rw [o 0 (by decide) (by decide)]; exact h.fa)
theorem q1024 {i : Nat} (h : i < 1024) : ¬ (1024 : Int32) ≤ nI i := nI_ge (b := 1024) h (by decide)
theorem gz_loop (a : Int32) : ∀ d i fuel (st : St), i + d = 1024 → d < fuel → Off τ st → (∀ X, X < i → st 14 X = 0) → ∃ st', D_X7_goOn_2 a fuel st (nI i) = D_X7_goOn_22 st' a ∧ Off τ st' ∧ st' 13 = st 13 ∧ Row st' 14 (fun _ => False) := by
  intro d
  induction d with
  | zero =>
    intro i fuel st hi hfu h1 h2
    obtain ⟨k, rfl⟩ : ∃ k, fuel = k + 1 := ⟨fuel - 1, by omega⟩
    have : i = 1024 := by omega
    subst this
    refine ⟨st, ?_, h1, rfl, fun X hX => ⟨fun q => q.elim, fun _ => h2 X hX⟩⟩
    show D_X7_goOn_2b _ _ _ _ = _
    unfold D_X7_goOn_2b
    rw [if_pos (by decide)]
  | succ d ih =>
    intro i fuel st hi hfu h1 h2
    obtain ⟨k, rfl⟩ : ∃ k, fuel = k + 1 := ⟨fuel - 1, by omega⟩
    obtain ⟨st', r1, r2, r3, r4⟩ := ih (i + 1) k (up2 st 14 i 0) (by omega) (by omega) (fun c c1 c2 => (up2_ne c c2).trans (h1 c c1 c2)) (fun X hX => by
      by_cases e : X = i
      · rw [e, up2_s]
      · rw [up2_j e]; exact h2 X (by omega))
    refine ⟨st', ?_, r2, r3.trans (up2_ne 13 (by decide)), r4⟩
    show D_X7_goOn_2b _ _ _ _ = _
    unfold D_X7_goOn_2b
    rw [if_neg (q1024 (by omega)), inb_nI (show i < 1024 by omega) (by decide), gd_true, nI_clamp (by omega), vp0, ← nI_succ]
    exact r1
theorem gs_loop (h : Rel σ τ) {a : Nat} (ha : a < nRid σ) {P : Nat → Prop} : ∀ d f fuel (st : St), f + d = 32 → d < fuel → Off τ st → Row st 13 P → Row st 14 (fun X => ∃ W g, W < 1024 ∧ g < f ∧ P W ∧ RT σ a g = true ∧ WO σ W g = true ∧ X = W + l2 g) → ∃ st', D_X7_goOn_24 (nI a) fuel st (nI f) = D_X7_goOn_65 st' ∧ Off τ st' ∧ Row st' 14 (fun X => ∃ W g, W < 1024 ∧ g < 32 ∧ P W ∧ RT σ a g = true ∧ WO σ W g = true ∧ X = W + l2 g) := by
  intro d
  induction d with
  | zero =>
    intro f fuel st hi hfu h1 h2 h3
    obtain ⟨k, rfl⟩ : ∃ k, fuel = k + 1 := ⟨fuel - 1, by omega⟩
    have : f = 32 := by omega
    subst this
    refine ⟨st, ?_, h1, h3⟩
    show D_X7_goOn_24b _ _ _ _ = _
    unfold D_X7_goOn_24b
    rw [if_pos (by decide)]
  | succ d ih =>
    intro f fuel st hi hfu h1 h2 h3
    obtain ⟨k, rfl⟩ : ∃ k, fuel = k + 1 := ⟨fuel - 1, by omega⟩
    have hst := Off.rel h h1
    have q0 : ¬ (32 : Int32) ≤ nI f := nI_ge (b := 32) (by omega) (by decide)
    have skip : RT σ a f = false → ∃ st', D_X7_goOn_24 (nI a) k st (nI f + 1) = D_X7_goOn_65 st' ∧ Off τ st' ∧ Row st' 14 (fun X => ∃ W g, W < 1024 ∧ g < 32 ∧ P W ∧ RT σ a g = true ∧ WO σ W g = true ∧ X = W + l2 g) := by
      intro hno
      rw [← nI_succ]
      refine ih (f + 1) k st (by omega) (by omega) h1 h2 (h3.cong fun X _ => ?_)
      constructor
      · rintro ⟨W, g, w0, w1, w2, w3, w4, w5⟩; exact ⟨W, g, w0, by omega, w2, w3, w4, w5⟩
      · rintro ⟨W, g, w0, w1, w2, w3, w4, w5⟩
        by_cases e : g = f
        · rw [e, hno] at w3; cases w3
        · exact ⟨W, g, w0, by omega, w2, w3, w4, w5⟩
    have base : D_X7_goOn_24 (nI a) (k + 1) st (nI f) = (if (if ow (OW σ a) (nI f) = true then (0 : Int32) else 1) = 0 then (if AG σ a (nI f) = σ (5 + a) 4 then (D_X7_addTo st (nI f)).bind fun y34 => D_X7_goOn_24 (nI a) k y34 (nI f + 1) else D_X7_goOn_24 (nI a) k st (nI f + 1)) else D_X7_goOn_24 (nI a) k st (nI f + 1)) := by
      show D_X7_goOn_24b _ _ _ _ = _
      unfold D_X7_goOn_24b D_X7_goOn_59
      rw [if_neg q0, nso_eq hst ha, Option.bind_some, ab_eq hst ha, Option.bind_some, ri4 hst ha, gd_true, rcl hst ha, (hst.rdr a ha).2.2.2.2.1]
    cases hr : RT σ a f
    · obtain ⟨st', r1, r2⟩ := skip hr
      refine ⟨st', ?_, r2⟩
      rw [base, ← r1]
      unfold RT at hr
      cases ho : ow (OW σ a) (nI f)
      · rfl
      · rw [ho, Bool.true_and, decide_eq_false_iff_not] at hr
        rw [if_pos (by decide), if_neg hr]
    · have hfs := RT_small h ha (show f < 32 by omega) hr
      obtain ⟨s1, e1, e2, e3, e4⟩ := ad_loop h (show f < 32 by omega) hfs (P := P) (Q := fun X => ∃ W g, W < 1024 ∧ g < f ∧ P W ∧ RT σ a g = true ∧ WO σ W g = true ∧ X = W + l2 g) 1024 0 FU st rfl (FU_lt (by decide)) h1 h2 (h3.cong fun X _ => ⟨Or.inl, fun q => q.elim id (fun ⟨W, w1, _⟩ => absurd w1 (Nat.not_lt_zero W))⟩)
      obtain ⟨st', r1, r2, r3⟩ := ih (f + 1) k s1 (by omega) (by omega) e2 (h2.row e3) (e4.cong fun X _ => by
        constructor
        · rintro (⟨W, g, w0, w1, w2, w3, w4, w5⟩ | ⟨W, w1, w2, w3, w4⟩)
          · exact ⟨W, g, w0, by omega, w2, w3, w4, w5⟩
          · exact ⟨W, f, w1, by omega, w2, hr, w3, w4⟩
        · rintro ⟨W, g, w0, w1, w2, w3, w4, w5⟩
          by_cases e : g = f
          · subst e; exact Or.inr ⟨W, w0, w2, w4, w5⟩
          · exact Or.inl ⟨W, g, w0, by omega, w2, w3, w4, w5⟩)
      refine ⟨st', ?_, r2, r3⟩
      rw [base]
      unfold RT at hr
      rw [Bool.and_eq_true, decide_eq_true_eq] at hr
      rw [hr.1, if_pos (by decide), if_pos hr.2]
      unfold D_X7_addTo
      rw [show D_X7_addTo_2 (nI f) FU st 0 = some s1 from e1, Option.bind_some, ← nI_succ]
      exact r1
theorem gc_loop {P : Nat → Prop} : ∀ d i fuel (st : St), i + d = 1024 → d < fuel → Off τ st → Row st 14 P → (∀ X, X < i → st 13 X = st 14 X) → ∃ st', D_X7_goOn_67 fuel st (nI i) = some st' ∧ Off τ st' ∧ Row st' 13 P := by
  intro d
  induction d with
  | zero =>
    intro i fuel st hi hfu h1 h2 h3
    obtain ⟨k, rfl⟩ : ∃ k, fuel = k + 1 := ⟨fuel - 1, by omega⟩
    have : i = 1024 := by omega
    subst this
    refine ⟨st, ?_, h1, fun X hX => by rw [h3 X hX]; exact h2 X hX⟩
    show D_X7_goOn_67b _ _ _ = _
    unfold D_X7_goOn_67b
    rw [if_pos (by decide)]
  | succ d ih =>
    intro i fuel st hi hfu h1 h2 h3
    obtain ⟨k, rfl⟩ : ∃ k, fuel = k + 1 := ⟨fuel - 1, by omega⟩
    have hv : vp_nar .boolean (st 14 i) = st 14 i := by
      by_cases hP : P i
      · rw [(h2 i (by omega)).1 hP]; exact vp1
      · rw [(h2 i (by omega)).2 hP]; exact vp0
    obtain ⟨st', r1, r2⟩ := ih (i + 1) k (up2 st 13 i (st 14 i)) (by omega) (by omega) (fun c c1 c2 => (up2_ne c c1).trans (h1 c c1 c2)) (h2.row (up2_ne 14 (by decide))) (fun X hX => by
      by_cases e : X = i
      · rw [e, up2_s, up2_c (by decide)]
      · rw [up2_j e, up2_c (by decide)]; exact h3 X (by omega))
    refine ⟨st', ?_, r2⟩
    show D_X7_goOn_67b _ _ _ = _
    unfold D_X7_goOn_67b
    rw [if_neg (q1024 (by omega)), inb_nI (show i < 1024 by omega) (by decide), gd_true, gd_true, nI_clamp (by omega), hv, ← nI_succ]
    exact r1
theorem go_on (h : Rel σ τ) {a : Nat} (ha : a < nRid σ) {P : Nat → Prop} {st : St} (o : Off τ st) (r : Row st 13 P) : ∃ st', D_X7_goOn st (nI a) = some st' ∧ Off τ st' ∧ Row st' 13 (fun X => ∃ W g, W < 1024 ∧ g < 32 ∧ P W ∧ RT σ a g = true ∧ WO σ W g = true ∧ X = W + l2 g) := by
  obtain ⟨s1, e1, o1, t1, z1⟩ := gz_loop (nI a) 1024 0 FU st rfl (FU_lt (by decide)) o (fun X hX => absurd hX (Nat.not_lt_zero X))
  obtain ⟨s2, e2, o2, z2⟩ := gs_loop h ha (P := P) 32 0 FU s1 rfl (FU_lt (by decide)) o1 (r.row t1) (z1.cong fun X _ => ⟨fun q => q.elim, fun ⟨W, g, _, q, _⟩ => absurd q (Nat.not_lt_zero g)⟩)
  obtain ⟨s3, e3, o3, z3⟩ := gc_loop 1024 0 FU s2 rfl (FU_lt (by decide)) o2 z2 (fun X hX => absurd hX (Nat.not_lt_zero X))
  refine ⟨s3, ?_, o3, z3⟩
  unfold D_X7_goOn
  refine Eq.trans e1 ?_
  unfold D_X7_goOn_22
  refine Eq.trans e2 ?_
  exact e3
theorem ci_loop (who : Int32) : ∀ d i fuel (st : St), i + d = 1024 → d < fuel → Off τ st → (∀ X, X < i → st 13 X = if X = 0 then 1 else 0) → ∃ st', D_X7_canAllBeRight_2 who fuel st (nI i) = D_X7_canAllBeRight_30 st' who ∧ Off τ st' ∧ Row st' 13 (fun X => X = 0) := by
  intro d
  induction d with
  | zero =>
    intro i fuel st hi hfu h1 h2
    obtain ⟨k, rfl⟩ : ∃ k, fuel = k + 1 := ⟨fuel - 1, by omega⟩
    have : i = 1024 := by omega
    subst this
    refine ⟨st, ?_, h1, fun X hX => ⟨fun q => by rw [h2 X hX, if_pos q], fun q => by rw [h2 X hX, if_neg q]⟩⟩
    show D_X7_canAllBeRight_2b _ _ _ _ = _
    unfold D_X7_canAllBeRight_2b
    rw [if_pos (by decide)]
  | succ d ih =>
    intro i fuel st hi hfu h1 h2
    obtain ⟨k, rfl⟩ : ∃ k, fuel = k + 1 := ⟨fuel - 1, by omega⟩
    obtain ⟨st', r1, r2⟩ := ih (i + 1) k (up2 st 13 i (if i = 0 then 1 else 0)) (by omega) (by omega) (fun c c1 c2 => (up2_ne c c1).trans (h1 c c1 c2)) (fun X hX => by
      by_cases e : X = i
      · rw [e, up2_s]
      · rw [up2_j e]; exact h2 X (by omega))
    refine ⟨st', ?_, r2⟩
    show D_X7_canAllBeRight_2b _ _ _ _ = _
    unfold D_X7_canAllBeRight_2b D_X7_canAllBeRight_23
    rw [if_neg (q1024 (by omega)), inb_nI (show i < 1024 by omega) (by decide), gd_true, gd_true, nI_clamp (by omega), ← nI_succ, vp1, vp0]
    by_cases h0 : i = 0
    · rw [if_pos h0] at r1
      rw [if_pos ((nI_z (by omega)).mpr h0)]
      exact r1
    · rw [if_neg h0] at r1
      rw [if_neg (fun q => h0 ((nI_z (by omega)).mp q))]
      exact r1
theorem Re_s (σ : St) (who a W : Nat) : Re σ who (a + 1) W = if who.testBit a = true then ∃ V f, V < 1024 ∧ f < 32 ∧ Re σ who a V ∧ RT σ a f = true ∧ WO σ V f = true ∧ W = V + l2 f else Re σ who a W := rfl
theorem cr_loop (h : Rel σ τ) {who : Nat} (hwho : who < 16) : ∀ d a fuel (st : St), a + d = nRid σ → d < fuel → Off τ st → Row st 13 (Re σ who a) → ∃ st', D_X7_canAllBeRight_32 (nI who) fuel st (nI a) = D_X7_canAllBeRight_59 st' ∧ Off τ st' ∧ Row st' 13 (Re σ who (nRid σ)) := by
  have h4 := h.rid4
  intro d
  induction d with
  | zero =>
    intro a fuel st hi hfu h1 h2
    obtain ⟨k, rfl⟩ : ∃ k, fuel = k + 1 := ⟨fuel - 1, by omega⟩
    have : a = nRid σ := by omega
    subst this
    refine ⟨st, ?_, h1, h2⟩
    show D_X7_canAllBeRight_32b _ _ _ _ = _
    unfold D_X7_canAllBeRight_32b
    rw [h1 0 (by decide) (by decide), h.mrid, if_pos (nI_le (Nat.le_refl _) (by omega))]
  | succ d ih =>
    intro a fuel st hi hfu h1 h2
    obtain ⟨k, rfl⟩ : ∃ k, fuel = k + 1 := ⟨fuel - 1, by omega⟩
    have ha : a < nRid σ := by omega
    have base : D_X7_canAllBeRight_32 (nI who) (k + 1) st (nI a) = (if who.testBit a = true then (D_X7_goOn st (nI a)).bind fun y29 => D_X7_canAllBeRight_32 (nI who) k y29 (nI a + 1) else D_X7_canAllBeRight_32 (nI who) k st (nI a + 1)) := by
      show D_X7_canAllBeRight_32b _ _ _ _ = _
      unfold D_X7_canAllBeRight_32b D_X7_canAllBeRight_53 D_X7_isIn
      rw [h1 0 (by decide) (by decide), h.mrid, if_neg (nI_ge (by omega) (by omega)), wb_fin ⟨who, hwho⟩ ⟨a, by omega⟩]
      cases hb : who.testBit a
      · simp [hb]
      · simp [hb, i10]
    cases hb : who.testBit a
    · obtain ⟨st', r1, r2⟩ := ih (a + 1) k st (by omega) (by omega) h1 (h2.cong fun X _ => by
        rw [Re_s, hb, if_neg (by decide)])
      refine ⟨st', ?_, r2⟩
      rw [base, hb, if_neg (by decide), ← nI_succ]
      exact r1
    · obtain ⟨s1, e1, o1, z1⟩ := go_on h ha h1 h2
      obtain ⟨st', r1, r2⟩ := ih (a + 1) k s1 (by omega) (by omega) o1 (z1.cong fun X _ => by
        rw [Re_s, if_pos hb])
      refine ⟨st', ?_, r2⟩
      rw [base, hb, if_pos rfl, e1, Option.bind_some, ← nI_succ]
      exact r1
theorem cn_loop {P : Nat → Prop} {st : St} (r : Row st 13 P) (b : Bool) (hb : b = true ↔ ∃ X, X < 1024 ∧ P X) : ∀ d i fuel (v : Bool), i + d = 1024 → d < fuel → (v = true ↔ ∃ X, X < i ∧ P X) → D_X7_canAllBeRight_63 st fuel (if v then 1 else 0) (nI i) = some (if b then 1 else 0, st) := by
  intro d
  induction d with
  | zero =>
    intro i fuel v hi hfu hv
    obtain ⟨k, rfl⟩ : ∃ k, fuel = k + 1 := ⟨fuel - 1, by omega⟩
    have : i = 1024 := by omega
    subst this
    have e : v = b := by
      have q := hv.trans hb.symm
      cases v
      · cases b
        · rfl
        · exact (q.mpr rfl)
      · exact (q.mp rfl).symm
    subst e
    show D_X7_canAllBeRight_63b _ _ _ _ = _
    unfold D_X7_canAllBeRight_63b
    rw [if_pos (by decide)]
    cases v <;> rfl
  | succ d ih =>
    intro i fuel v hi hfu hv
    obtain ⟨k, rfl⟩ : ∃ k, fuel = k + 1 := ⟨fuel - 1, by omega⟩
    show D_X7_canAllBeRight_63b _ _ _ _ = _
    unfold D_X7_canAllBeRight_63b D_X7_canAllBeRight_83 D_X7_canAllBeRight_88
    rw [if_neg (q1024 (by omega)), inb_nI (show i < 1024 by omega) (by decide), gd_true, nI_clamp (by omega), ← nI_succ]
    have t1 := ih (i + 1) k true (by omega) (by omega)
    have t0 := ih (i + 1) k false (by omega) (by omega)
    cases v
    · by_cases hP : P i
      · rw [if_pos (by decide), (r i (by omega)).1 hP, if_neg i10]
        exact t1 ⟨fun _ => ⟨i, by omega, hP⟩, fun _ => rfl⟩
      · rw [if_pos (by decide), (r i (by omega)).2 hP, if_pos rfl]
        refine t0 ⟨fun q => (by cases q), fun ⟨X, hX, hp⟩ => ?_⟩
        by_cases e : X = i
        · rw [e] at hp; exact absurd hp hP
        · exact hv.mpr ⟨X, by omega, hp⟩
    · rw [if_neg (by decide)]
      obtain ⟨X, hX, hp⟩ := hv.mp rfl
      exact t1 ⟨fun _ => ⟨X, by omega, hp⟩, fun _ => rfl⟩
theorem car_m (h : Rel σ τ) {who : Nat} (hwho : who < 16) {st : St} (o : Off τ st) : ∃ st', D_X7_canAllBeRight st (nI who) = some (if CA σ who (nRid σ) 0 then 1 else 0, st') ∧ Off τ st' := by
  obtain ⟨s1, e1, o1, z1⟩ := ci_loop (nI who) 1024 0 FU st rfl (FU_lt (by decide)) o (fun X hX => absurd hX (Nat.not_lt_zero X))
  obtain ⟨s2, e2, o2, z2⟩ := cr_loop h hwho (nRid σ) 0 FU s1 (by omega) (FU_lt (by have := h.rid4; omega)) o1 z1
  have key : CA σ who (nRid σ) 0 = true ↔ ∃ X, X < 1024 ∧ Re σ who (nRid σ) X := by
    have k1 := Re_CA h who (nRid σ) 0 (by omega)
    constructor
    · intro hc
      obtain ⟨W, hW⟩ := k1.mpr ⟨0, rfl, hc⟩
      exact ⟨W, (Re_inv h who (nRid σ) (Nat.le_refl _) W hW).1, hW⟩
    · rintro ⟨X, _, hX⟩
      obtain ⟨W, hW, hc⟩ := k1.mp ⟨X, hX⟩
      have : W = 0 := hW
      subst this
      exact hc
  have e3 := cn_loop z2 (CA σ who (nRid σ) 0) key 1024 0 FU false rfl (FU_lt (by decide)) ⟨fun q => (by cases q), fun ⟨X, hX, _⟩ => absurd hX (Nat.not_lt_zero X)⟩
  refine ⟨s2, ?_, o2⟩
  unfold D_X7_canAllBeRight
  refine Eq.trans e1 ?_
  unfold D_X7_canAllBeRight_30
  refine Eq.trans e2 ?_
  exact e3
/-- the best of those below n -/
def MB (σ : St) : Nat → Nat
  | 0 => 0
  | n + 1 => if decide (pcN (MB σ n) < pcN n) && CA σ n (nRid σ) 0 then n else MB σ n
theorem MB_s (σ : St) (n : Nat) : MB σ (n + 1) = if decide (pcN (MB σ n) < pcN n) && CA σ n (nRid σ) 0 then n else MB σ n := rfl
theorem MB_le (σ : St) : ∀ n, MB σ n ≤ n := by
  intro n
  induction n with
  | zero => exact Nat.le_refl _
  | succ n ih =>
    rw [MB_s]
    split <;> omega
theorem p2r_fin : ∀ r : Fin 5, (1 : Int32) <<< (nI r.val &&& 31) = nI (2 ^ r.val) ∧ 2 ^ r.val ≤ 16 ∧ 1 ≤ 2 ^ r.val := by decide +kernel
theorem mo_c (h : Rel σ τ) {st : St} (hs : RS σ st) : ∀ d n fuel, n + d = 2 ^ nRid σ → d < fuel → D_X2_mostRight_36 st fuel (nI (MB σ n)) (nI n) = some (nI (MB σ (2 ^ nRid σ)), st) := by
  have h4 := h.rid4
  obtain ⟨p1, p2, p3⟩ := p2r_fin ⟨nRid σ, by omega⟩
  simp only at p1 p2 p3
  intro d
  induction d with
  | zero =>
    intro n fuel hn hfu
    obtain ⟨k, rfl⟩ : ∃ k, fuel = k + 1 := ⟨fuel - 1, by omega⟩
    have : n = 2 ^ nRid σ := by omega
    subst this
    show D_X2_mostRight_36b _ _ _ _ = _
    unfold D_X2_mostRight_36b
    rw [hs.1 1 (by decide), h.rid, p1, if_pos (nI_le (Nat.le_refl _) (by omega))]
  | succ d ih =>
    intro n fuel hn hfu
    obtain ⟨k, rfl⟩ : ∃ k, fuel = k + 1 := ⟨fuel - 1, by omega⟩
    have e := ih (n + 1) k (by omega) (by omega)
    rw [nI_succ, MB_s] at e
    have hm := MB_le σ n
    have q1 := pcN_le (n := n)
    have q2 := pcN_le (n := MB σ n)
    show D_X2_mostRight_36b _ _ _ _ = _
    unfold D_X2_mostRight_36b D_X2_mostRight_69
    rw [hs.1 1 (by decide), h.rid, p1, if_neg (nI_ge (by omega) (by omega)), bc_eq st (show n < 32 by omega), Option.bind_some, bc_eq st (show MB σ n < 32 by omega), Option.bind_some]
    by_cases hc : pcN (MB σ n) < pcN n
    · have ce := ca_eq h hs (show n < 16 by omega) (nRid σ) (Nat.le_refl _) 6 0 (by omega) (by omega)
      rw [Nat.sub_self] at ce
      rw [if_neg (nI_ge hc (by omega)), show D_X2_canAllBeRight 6 st (nI n) 0 0 = _ from ce, Option.bind_some]
      cases hk : CA σ n (nRid σ) 0
      · rw [if_pos (by decide)]
        simp only [hk, Bool.and_false, Bool.false_eq_true, if_false] at e
        exact e
      · rw [if_neg (by decide)]
        simp only [hc, hk, decide_true, Bool.and_true, if_true] at e
        exact e
    · rw [if_pos (nI_le (by omega) (by omega))]
      simp only [hc, decide_false, Bool.false_and, Bool.false_eq_true, if_false] at e
      exact e
theorem mo_m (h : Rel σ τ) : ∀ d n fuel (st : St), n + d = 2 ^ nRid σ → d < fuel → Off τ st → ∃ st', D_X7_most_14 fuel st (nI (MB σ n)) (nI n) = some (nI (MB σ (2 ^ nRid σ)), st') ∧ Off τ st' := by
  have h4 := h.rid4
  obtain ⟨p1, p2, p3⟩ := p2r_fin ⟨nRid σ, by omega⟩
  simp only at p1 p2 p3
  intro d
  induction d with
  | zero =>
    intro n fuel st hn hfu o
    obtain ⟨k, rfl⟩ : ∃ k, fuel = k + 1 := ⟨fuel - 1, by omega⟩
    have : n = 2 ^ nRid σ := by omega
    subst this
    refine ⟨st, ?_, o⟩
    show D_X7_most_14b _ _ _ _ = _
    unfold D_X7_most_14b
    rw [o 0 (by decide) (by decide), h.mrid, p1, if_pos (nI_le (Nat.le_refl _) (by omega))]
  | succ d ih =>
    intro n fuel st hn hfu o
    obtain ⟨k, rfl⟩ : ∃ k, fuel = k + 1 := ⟨fuel - 1, by omega⟩
    have hm := MB_le σ n
    have q1 := pcN_le (n := n)
    have q2 := pcN_le (n := MB σ n)
    have base : D_X7_most_14 (k + 1) st (nI (MB σ n)) (nI n) = if nI (pcN n) ≤ nI (pcN (MB σ n)) then D_X7_most_14 k st (nI (MB σ n)) (nI n + 1) else (D_X7_canAllBeRight st (nI n)).bind fun y25 => if y25.1 = 0 then D_X7_most_14 k y25.2 (nI (MB σ n)) (nI n + 1) else D_X7_most_14 k y25.2 (nI n) (nI n + 1) := by
      show D_X7_most_14b _ _ _ _ = _
      unfold D_X7_most_14b D_X7_most_47 D_X7_most_48
      rw [o 0 (by decide) (by decide), h.mrid, p1, if_neg (nI_ge (by omega) (by omega)), bi_eq st (show n < 32 by omega), Option.bind_some, bi_eq st (show MB σ n < 32 by omega), Option.bind_some]
    by_cases hc : pcN (MB σ n) < pcN n
    · obtain ⟨s1, e1, o1⟩ := car_m h (show n < 16 by omega) o
      obtain ⟨st', r1, r2⟩ := ih (n + 1) k s1 (by omega) (by omega) o1
      rw [nI_succ, MB_s] at r1
      refine ⟨st', ?_, r2⟩
      rw [base, if_neg (nI_ge hc (by omega)), e1, Option.bind_some]
      cases hk : CA σ n (nRid σ) 0
      · simp only [hk, Bool.and_false, Bool.false_eq_true, if_false] at r1
        simpa using r1
      · simp only [hc, hk, decide_true, Bool.and_true, if_true] at r1
        simpa [i10] using r1
    · obtain ⟨st', r1, r2⟩ := ih (n + 1) k st (by omega) (by omega) o
      rw [nI_succ, MB_s] at r1
      refine ⟨st', ?_, r2⟩
      rw [base, if_pos (nI_le (by omega) (by omega))]
      simp only [hc, decide_false, Bool.false_and, Bool.false_eq_true, if_false] at r1
      exact r1
theorem pf_most (h : Rel σ τ) : E2 (D_X6_most σ) (D_X7_most τ) := by
  have h4 := h.rid4
  rcases Nat.eq_zero_or_pos (nRid σ) with hr | hr
  · exact ⟨-3, σ, τ, by simp [D_X6_most, told_n h hr], by simp [D_X7_most, h.mrid, hr, nI_0], h⟩
  · obtain ⟨st, e1, hs⟩ := mr_loop h (nRid σ) 0 FU σ (by omega) (FU_lt (by omega)) (fun _ _ => rfl) (fun b hb => absurd hb (Nat.not_lt_zero b))
    obtain ⟨p1, p2, p3⟩ := p2r_fin ⟨nRid σ, by omega⟩
    simp only at p1 p2 p3
    have m1 : MB σ 1 = 0 := by
      rw [MB_s]
      split <;> rfl
    have c := mo_c h hs (2 ^ nRid σ - 1) 1 FU (by omega) (FU_lt (by omega))
    obtain ⟨tt, m, o⟩ := mo_m h (2 ^ nRid σ - 1) 1 FU τ (by omega) (FU_lt (by omega)) (fun _ _ _ => rfl)
    rw [m1] at c m
    refine ⟨nI (MB σ (2 ^ nRid σ)), st, tt, ?_, ?_, ?_⟩
    · unfold D_X6_most D_X2_mostRight
      rw [told_y h hr, Option.bind_some, if_neg i10, show D_X2_mostRight_2 FU σ 0 = _ from e1]
      unfold D_X2_mostRight_32
      rw [show D_X2_mostRight_36 st FU 0 1 = _ from c]; rfl
    · unfold D_X7_most
      rw [if_neg (mtold h hr)]
      exact m
    · have h1 := hs.1
      have ho := Off.rel h o
      exact ho.fr (fun c _ c2 _ => h1 c c2) (fun c _ _ _ => rfl) ⟨rfl, rfl, rfl, rfl⟩ (by rw [h1 0 (by decide)]; exact ho.tr) (by rw [h1 0 (by decide)]; exact ho.fa)
end PE
