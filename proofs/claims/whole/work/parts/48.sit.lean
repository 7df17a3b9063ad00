/-! SITTINGS -/
theorem gn_fin : ∀ k : Fin 3, ∀ x : Fin 4, ∃ g : Fin 5, gn (nI k.val) (nI x.val) = nI g.val := by decide +kernel
section P9
variable {σ τ : St}
theorem AG_nat (h : Rel σ τ) {a : Nat} (ha : a < nRid σ) (x : Int32) : ∀ n, n ≤ nSec σ → ∃ g, g ≤ 4 * n ∧ ∀ y : Nat, agF (σ (5 + a) 0) (σ 2) x (nI y) n = nI (y + g) := by
  intro n
  induction n with
  | zero => intro _; exact ⟨0, Nat.le_refl _, fun y => rfl⟩
  | succ n ih =>
    intro hn
    obtain ⟨g, hg, e⟩ := ih (by omega)
    obtain ⟨-, v, hv, ev⟩ := h.slo n (by omega)
    obtain ⟨-, -, -, -, -, ⟨k, hk, ek⟩, -⟩ := h.rdr a ha
    obtain ⟨q, hq⟩ := gn_fin ⟨k, by omega⟩ ⟨v, by omega⟩
    cases hb : bt1 x n
    · exact ⟨g, by omega, fun y => by simp only [agF, hb]; exact e y⟩
    · refine ⟨g + q.val, by omega, fun y => ?_⟩
      simp only [agF, hb, if_true]
      rw [e y, ek, ev, hq, nI_add, Nat.add_assoc]
theorem AG_ge (h : Rel σ τ) {a : Nat} (ha : a < nRid σ) (x : Int32) : ∃ y g, y ≤ 79 ∧ g ≤ 20 ∧ σ (5 + a) 3 = nI y ∧ AG σ a x = nI (y + g) := by
  obtain ⟨g, hg, e⟩ := AG_nat h ha x (nSec σ) (Nat.le_refl _)
  obtain ⟨-, -, -, -, -, -, -, ⟨y, hy, ey⟩, -⟩ := h.rdr a ha
  have h5 := h.sec5
  refine ⟨y, g, hy, by omega, ey, ?_⟩
  unfold AG
  rw [ey]; exact e y
/-- cells from i on taken as a row of a lane: both sides refuse alike, or both take them -/
theorem fob (h : Rel σ τ) {k : Nat} (hk : k < 4) (la i n : Int32) : (∃ f : Nat, 1 ≤ f ∧ f ≤ 4 ∧ D_X5_faultOfCells (up2 σ 0 5 0) (14 + k) la i n = some (nI f) ∧ D_X7_cellsBarred τ (nI k) la i n.toInt64 = some (-10 - nI f, up2 τ 0 0 (nI f))) ∨ (D_X5_faultOfCells (up2 σ 0 5 0) (14 + k) la i n = some 0 ∧ D_X7_cellsBarred τ (nI k) la i n.toInt64 = some (0, τ) ∧ ∃ L a b, L ≤ 60 ∧ a + b ≤ L ∧ i = nI a ∧ n = nI b ∧ σ (14 + k) 2 = nI L ∧ ∀ j, j < L → τ 20 (60 * k + j) = σ (18 + k) j) := by
  unfold D_X5_faultOfCells D_X5_faultOfRow D_X5_hasRow D_X7_cellsBarred D_X7_cellsBarred_25
  rw [sh4 hk, gd_true, gd_true, gd_true, gd_true, scl4 hk, up2_c n40]
  rcases h.she k hk with ⟨t1, t2, t3⟩ | ⟨lb, L, t1, t2, t3, t4, t5, t6, t7⟩
  · refine Or.inl ⟨1, by decide, by decide, ?_, ?_⟩
    · simp [t1, i10]; rfl
    · simp [t3, show ((-1 : Int32) < 0) by decide, show ¬ ((0 : Int32) ≤ -1) by decide, D_X7_failed]; exact ⟨rfl, rfl⟩
  · have q : ¬ nI lb = -1 := nI_nm1 (by omega)
    have q0 : ¬ nI L < 0 := nI_pos (by omega)
    have q1 : (0 : Int32) ≤ nI L := nI_pos' (by omega)
    by_cases hl : nI lb = la
    · by_cases hn : 0 ≤ n
      · have hn2 : (0 : Int32) ≤ lg_cmp n.toInt64 0 := by
          rw [lg_cmp_ge, Int64.le_iff_toInt_le, wid]
          rw [le_i] at hn
          exact hn
        have e5 : up2 σ 0 5 0 (14 + k) 2 = nI L := by rw [up2_c n40]; exact t5
        rcases bey (up2 σ 0 5 0) τ t2 e5 i n with ⟨b1, b2⟩ | ⟨b1, b2, a, b, hab, ei, en⟩
        · refine Or.inl ⟨3, by decide, by decide, ?_, ?_⟩
          · simp [t3, q, hl, hn, b1, i10]
            rw [← hl]; simp [q]; rfl
          · simp [t6, q0, t4, hl, q1, hn2, b2, i10, D_X7_failed]; exact ⟨rfl, rfl⟩
        · refine Or.inr ⟨?_, ?_, L, a, b, t2, hab, ei, en, t5, t7⟩
          · simp [t3, q, hl, hn, b1, i10]
            rw [← hl]; simp [q]
          · simp [t6, q0, t4, hl, q1, hn2, b2]
      · have hn2 : ¬ (0 : Int32) ≤ lg_cmp n.toInt64 0 := by
          rw [lg_cmp_ge, Int64.le_iff_toInt_le, wid]
          rw [le_i] at hn
          exact hn
        refine Or.inl ⟨4, by decide, by decide, ?_, ?_⟩
        · simp [t3, q, hl, hn, i10]
          rw [← hl]; simp [q]; rfl
        · simp [t6, q0, t4, hl, q1, hn2, D_X7_failed]; exact ⟨rfl, rfl⟩
    · refine Or.inl ⟨2, by decide, by decide, ?_, ?_⟩
      · simp [t3, q, hl, i10]; rfl
      · simp [t6, q0, t4, hl, D_X7_failed]; exact ⟨rfl, rfl⟩
theorem AG_cong {st : St} (h1 : st 1 = σ 1) (h2 : st 2 = σ 2) {a : Nat} (h3 : st (5 + a) = σ (5 + a)) (x : Int32) : AG st a x = AG σ a x := by
  unfold AG nSec; rw [h1, h2, h3]
theorem OW_cong {st : St} {a : Nat} (h3 : st (5 + a) = σ (5 + a)) : OW st a = OW σ a := by unfold OW; rw [h3]
def OKn (σ : St) (T : Nat → Int32) : Nat → Bool
  | 0 => true
  | n + 1 => OKn σ T n && ow (OW σ n) (T n)
theorem OKn_s (σ : St) (T : Nat → Int32) (n : Nat) : OKn σ T (n + 1) = (OKn σ T n && ow (OW σ n) (T n)) := rfl
theorem OKn_f {T : Nat → Int32} {n : Nat} (h : OKn σ T n = false) : ∀ k, OKn σ T (n + k) = false := by
  intro k
  induction k with
  | zero => exact h
  | succ k ih => rw [← Nat.add_assoc, OKn_s, ih]; rfl
theorem OKn_t {T : Nat → Int32} : ∀ {n}, OKn σ T n = true → ∀ x, x < n → ow (OW σ x) (T x) = true := by
  intro n
  induction n with
  | zero => intro _ x hx; exact absurd hx (Nat.not_lt_zero x)
  | succ n ih =>
    intro h x hx
    rw [OKn_s, Bool.and_eq_true] at h
    by_cases e : x = n
    · rw [e]; exact h.2
    · exact ih h.1 x (by omega)
theorem ts_loop (h : Rel σ τ) {k a L : Nat} (hk : k < 4) (hL : L ≤ 60) (eL : σ (14 + k) 2 = nI L) (haL : a + nRid σ ≤ L) : ∀ d x fuel (st : St), x + d = nRid σ → d < fuel → OKn σ (fun x => σ (18 + k) (a + x)) x = true → (∀ c, c ≠ 22 → st c = up2 σ 0 5 0 c) → (∀ y, y < x → st 22 y = σ (18 + k) (a + y)) → ∃ st', D_X6_takeSitting_2 (14 + k) (nI a) fuel st (nI x) = some (if OKn σ (fun x => σ (18 + k) (a + x)) (nRid σ) then 1 else 0, st') ∧ (∀ c, c ≠ 22 → st' c = up2 σ 0 5 0 c) ∧ (OKn σ (fun x => σ (18 + k) (a + x)) (nRid σ) = true → ∀ y, y < nRid σ → st' 22 y = σ (18 + k) (a + y)) := by
  have h4 := h.rid4
  intro d
  induction d with
  | zero =>
    intro x fuel st hx hf ok h1 h2
    obtain ⟨f, rfl⟩ : ∃ f, fuel = f + 1 := ⟨fuel - 1, by omega⟩
    have : x = nRid σ := by omega
    subst this
    refine ⟨st, ?_, h1, fun _ => h2⟩
    show D_X6_takeSitting_2b _ _ _ _ _ = _
    unfold D_X6_takeSitting_2b
    rw [h1 1 (by decide), up2_c (by decide), h.rid, if_pos (nI_le (Nat.le_refl _) (by omega)), ok]; rfl
  | succ d ih =>
    intro x fuel st hx hf ok h1 h2
    obtain ⟨f, rfl⟩ : ∃ f, fuel = f + 1 := ⟨fuel - 1, by omega⟩
    have e5 : st (14 + k) 2 = nI L := by rw [h1 (14 + k) (by omega), up2_c n40]; exact eL
    have eT : st (14 + k + 4) (a + x) = σ (18 + k) (a + x) := by rw [h1 (14 + k + 4) (by omega), up2_c (by omega), show 14 + k + 4 = 18 + k by omega]
    have eo : OW st x = OW σ x := OW_cong (by rw [h1 (5 + x) (by omega), up2_ne (5 + x) (by omega)])
    have hq : ∀ r, D_X6_takeSitting_2b st (D_X6_takeSitting_2 (14 + k) (nI a) f) (14 + k) (nI a) (nI x) = r ↔ (if (if ow (OW σ x) (σ (18 + k) (a + x)) = true then (1 : Int32) else 0) = 0 then some ((0 : Int32), st) else D_X6_takeSitting_2 (14 + k) (nI a) f (up2 st 22 x (σ (18 + k) (a + x))) (nI (x + 1))) = r := by
      intro r
      unfold D_X6_takeSitting_2b
      rw [h1 1 (by decide), up2_c (by decide), h.rid, if_neg (nI_ge (by omega) (by omega)), nI_add, at_y st e5 (by omega) hL, Option.bind_some, inb_nI (show x < 4 by omega) (by decide), gd_true, gd_true, nI_clamp (by omega), eT, ons_eq, Option.bind_some, eo, nI_succ]
    cases hb : ow (OW σ x) (σ (18 + k) (a + x))
    · have hz : OKn σ (fun x => σ (18 + k) (a + x)) (nRid σ) = false := by
        have := OKn_f (σ := σ) (T := fun x => σ (18 + k) (a + x)) (n := x + 1) (by rw [OKn_s, hb, Bool.and_false]) d
        rw [show x + 1 + d = nRid σ by omega] at this
        exact this
      refine ⟨st, ?_, h1, fun e => by rw [hz] at e; cases e⟩
      show D_X6_takeSitting_2b _ _ _ _ _ = _
      rw [hq, hb, hz]; rfl
    · obtain ⟨st', e, q1, q2⟩ := ih (x + 1) f (up2 st 22 x (σ (18 + k) (a + x))) (by omega) (by omega) (by rw [OKn_s, ok, hb]; rfl) (fun c hc => (up2_ne c hc).trans (h1 c hc)) (fun y hy => by
        by_cases hyx : y = x
        · rw [hyx, up2_s]
        · rw [up2_j hyx]; exact h2 y (by omega))
      refine ⟨st', ?_, q1, q2⟩
      show D_X6_takeSitting_2b _ _ _ _ _ = _
      rw [hq, hb, if_neg (by decide)]
      exact e
theorem sq_loop (h : Rel σ τ) {k a L : Nat} (hk : k < 4) (hL : L ≤ 60) (haL : a + nRid σ ≤ L) (t7 : ∀ j, j < L → τ 20 (60 * k + j) = σ (18 + k) j) (u : Int32) : ∀ d x fuel, x + d = nRid σ → d < fuel → OKn σ (fun x => σ (18 + k) (a + x)) x = true → D_X7_sit_140 τ (nI k) (nI a) (nI (nRid σ)) u fuel (nI x) = if OKn σ (fun x => σ (18 + k) (a + x)) (nRid σ) then D_X7_sit_183 τ (nI k) (nI a) u else D_X7_sit_170 τ := by
  have h4 := h.rid4
  intro d
  induction d with
  | zero =>
    intro x fuel hx hf ok
    obtain ⟨f, rfl⟩ : ∃ f, fuel = f + 1 := ⟨fuel - 1, by omega⟩
    have : x = nRid σ := by omega
    subst this
    show D_X7_sit_140b _ _ _ _ _ _ _ = _
    unfold D_X7_sit_140b
    rw [if_pos (nI_le (Nat.le_refl _) (by omega)), ok]; rfl
  | succ d ih =>
    intro x fuel hx hf ok
    obtain ⟨f, rfl⟩ : ∃ f, fuel = f + 1 := ⟨fuel - 1, by omega⟩
    show D_X7_sit_140b _ _ _ _ _ _ _ = _
    unfold D_X7_sit_140b
    rw [if_neg (nI_ge (by omega) (by omega)), i60c, inb_nI (show 60 * k + a + x < 240 by omega) (by decide), gd_true, nI_clamp (by omega), show 60 * k + a + x = 60 * k + (a + x) by omega, t7 _ (by omega), nso_eq h (show x < nRid σ by omega), Option.bind_some]
    cases hb : ow (OW σ x) (σ (18 + k) (a + x))
    · have hz : OKn σ (fun x => σ (18 + k) (a + x)) (nRid σ) = false := by
        have := OKn_f (σ := σ) (T := fun x => σ (18 + k) (a + x)) (n := x + 1) (by rw [OKn_s, hb, Bool.and_false]) d
        rw [show x + 1 + d = nRid σ by omega] at this
        exact this
      rw [hz]; rfl
    · rw [← nI_succ]
      exact ih (x + 1) f (by omega) (by omega) (by rw [OKn_s, ok, hb]; rfl)
/-- how many of the first n sit above on s; the load of the first n -/
def AB (S : Nat → Nat) (s : Nat) : Nat → Nat
  | 0 => 0
  | n + 1 => AB S s n + S n / 2 ^ s % 2
def LT (S : Nat → Nat) : Nat → Nat
  | 0 => 0
  | n + 1 => LT S n + ld (S n)
theorem AB_le (S : Nat → Nat) (s : Nat) : ∀ n, AB S s n ≤ n := by
  intro n
  induction n with
  | zero => exact Nat.le_refl _
  | succ n ih => simp only [AB]; omega
theorem LT_eq (S : Nat → Nat) : ∀ n, LT S n = AB S 0 n + 16 * AB S 1 n + 256 * AB S 2 n + 4096 * AB S 3 n + 65536 * AB S 4 n := by
  intro n
  induction n with
  | zero => rfl
  | succ n ih =>
    simp only [LT, AB, ih, ld]
    simp only [Nat.pow_zero, Nat.div_one, show 2 ^ 1 = 2 from rfl, show 2 ^ 2 = 4 from rfl, show 2 ^ 3 = 8 from rfl, show 2 ^ 4 = 16 from rfl]
    omega
theorem LT_lt (S : Nat → Nat) {n : Nat} (hn : n ≤ 4) : LT S n < 2 ^ 31 := by
  have h0 := AB_le S 0 n
  have h1 := AB_le S 1 n
  have h2 := AB_le S 2 n
  have h3 := AB_le S 3 n
  have h4 := AB_le S 4 n
  rw [LT_eq]; omega
theorem dgt_LT (S : Nat → Nat) {n s : Nat} (hn : n ≤ 4) (hs : s < 5) : dgt (LT S n) s = AB S s n := by
  have h0 := AB_le S 0 n
  have h1 := AB_le S 1 n
  have h2 := AB_le S 2 n
  have h3 := AB_le S 3 n
  have h4 := AB_le S 4 n
  rw [LT_eq]
  unfold dgt
  rcases (show s = 0 ∨ s = 1 ∨ s = 2 ∨ s = 3 ∨ s = 4 by omega) with rfl | rfl | rfl | rfl | rfl
  · simp only [Nat.pow_zero, Nat.div_one]; omega
  · simp only [show 16 ^ 1 = 16 from rfl]; omega
  · simp only [show 16 ^ 2 = 256 from rfl]; omega
  · simp only [show 16 ^ 3 = 4096 from rfl]; omega
  · simp only [show 16 ^ 4 = 65536 from rfl]; omega
theorem bit_fin : ∀ f : Fin 32, ∀ s : Fin 5, (nI f.val >>> (nI s.val &&& 31)) &&& 1 = nI (f.val / 2 ^ s.val % 2) := by decide +kernel
def EB (A : Nat → Int32) : Nat → Nat
  | 0 => 0
  | n + 1 => if A (EB A n) < A n then n else EB A n
theorem EB_lt (A : Nat → Int32) : ∀ n, EB A n ≤ n - 1 := by
  intro n
  induction n with
  | zero => exact Nat.le_refl _
  | succ n ih =>
    simp only [EB]
    split <;> omega
theorem SL_fin : ∀ n : Fin 5, ∀ m : Fin 32, m.val < 2 ^ n.val → nI m.val ||| ((1 : Int32) <<< (nI n.val &&& 31)) = nI (m.val + 2 ^ n.val) := by decide +kernel
theorem SLf_nat (H : Nat → Bool) : ∀ n, n ≤ 5 → ∃ m, m < 2 ^ n ∧ SLf H n = nI m := by
  intro n
  induction n with
  | zero => intro _; exact ⟨0, by decide, rfl⟩
  | succ n ih =>
    intro hn
    obtain ⟨m, hm, e⟩ := ih (by omega)
    rw [SLf_s]
    have h2 : 2 ^ (n + 1) = 2 ^ n + 2 ^ n := by rw [Nat.pow_succ]; omega
    have h3 : 2 ^ n ≤ 2 ^ 4 := Nat.pow_le_pow_right (by decide) (by omega)
    cases H n
    · exact ⟨m, by omega, by simpa using e⟩
    · refine ⟨m + 2 ^ n, by omega, ?_⟩
      rw [e]
      exact SL_fin ⟨n, by omega⟩ ⟨m, by omega⟩ hm
/-- a sitting that is told: the class holds it in its row 22, the model reads it from B on -/
def Sit (σ τ st : St) (S : Nat → Nat) (B : Nat) : Prop := (∀ c, c ≠ 0 → c ≠ 22 → st c = σ c) ∧ (∀ x, x < nRid σ → S x < 32 ∧ st 22 x = nI (S x) ∧ τ 20 (B + x) = nI (S x)) ∧ B + 4 ≤ 240 + (4 - nRid σ)
theorem os_loop (h : Rel σ τ) {st : St} {S : Nat → Nat} {B : Nat} (hs : Sit σ τ st S B) (u : Int32) : ∀ d x fuel, x + d = nRid σ → d < fuel → D_X6_ofSitting_4 st u fuel (nI (LT S x)) (nI x) = D_X6_ofSitting_33 st u (nI (LT S (nRid σ))) := by
  have h4 := h.rid4
  obtain ⟨s1, s2, s3⟩ := hs
  intro d
  induction d with
  | zero =>
    intro x fuel hx hf
    obtain ⟨f, rfl⟩ : ∃ f, fuel = f + 1 := ⟨fuel - 1, by omega⟩
    have : x = nRid σ := by omega
    subst this
    show D_X6_ofSitting_4b _ _ _ _ _ = _
    unfold D_X6_ofSitting_4b
    rw [s1 1 (by decide) (by decide), h.rid, if_pos (nI_le (Nat.le_refl _) (by omega))]
  | succ d ih =>
    intro x fuel hx hf
    obtain ⟨f, rfl⟩ : ∃ f, fuel = f + 1 := ⟨fuel - 1, by omega⟩
    obtain ⟨q1, q2, q3⟩ := s2 x (by omega)
    show D_X6_ofSitting_4b _ _ _ _ _ = _
    unfold D_X6_ofSitting_4b
    rw [s1 1 (by decide) (by decide), h.rid, if_neg (nI_ge (by omega) (by omega)), inb_nI (show x < 4 by omega) (by decide), gd_true, nI_clamp (by omega), q2, lo_eq st q1, Option.bind_some, nI_add, ← nI_succ]
    exact ih (x + 1) f (by omega) (by omega)
theorem ro_loop (h : Rel σ τ) {st τ' : St} (hst : Rel st τ') {S : Nat → Nat} {B : Nat} (hs : Sit σ τ st S B) : ∀ d x fuel, x + d = nRid σ → d < fuel → D_X6_rightOnes_4 st fuel (SLf (fun a => decide (AG σ a (nI (S a)) = σ (5 + a) 4)) x) (nI x) = some (SLf (fun a => decide (AG σ a (nI (S a)) = σ (5 + a) 4)) (nRid σ)) := by
  have h4 := h.rid4
  obtain ⟨s1, s2, s3⟩ := hs
  intro d
  induction d with
  | zero =>
    intro x fuel hx hf
    obtain ⟨f, rfl⟩ : ∃ f, fuel = f + 1 := ⟨fuel - 1, by omega⟩
    have : x = nRid σ := by omega
    subst this
    show D_X6_rightOnes_4b _ _ _ _ = _
    unfold D_X6_rightOnes_4b
    rw [s1 1 (by decide) (by decide), h.rid, if_pos (nI_le (Nat.le_refl _) (by omega))]
  | succ d ih =>
    intro x fuel hx hf
    obtain ⟨f, rfl⟩ : ∃ f, fuel = f + 1 := ⟨fuel - 1, by omega⟩
    obtain ⟨q1, q2, q3⟩ := s2 x (by omega)
    have e := ih (x + 1) f (by omega) (by omega)
    rw [nI_succ, SLf_s] at e
    show D_X6_rightOnes_4b _ _ _ _ = _
    unfold D_X6_rightOnes_4b D_X6_rightOnes_46 D_X2_isRight
    rw [s1 1 (by decide) (by decide), h.rid, if_neg (nI_ge (by omega) (by omega)), inb_nI (show x < 4 by omega) (by decide), gd_true, gd_true, nI_clamp (by omega), q2, yo_eq hst, Option.bind_some, AG_cong (s1 1 (by decide) (by decide)) (s1 2 (by decide) (by decide)) (s1 (5 + x) (by omega) (by omega)), s1 (5 + x) (by omega) (by omega)]
    by_cases hv : AG σ x (nI (S x)) = σ (5 + x) 4
    · simp only [hv, decide_true, if_true] at e
      simp only [hv, if_true, Option.bind_some, i10, if_false]
      exact e
    · simp only [hv, decide_false, Bool.false_eq_true, if_false] at e
      simp only [hv, if_false, Option.bind_some, if_true]
      exact e
theorem el_loop (h : Rel σ τ) {st τ' : St} (hst : Rel st τ') {S : Nat → Nat} {B : Nat} (hs : Sit σ τ st S B) : ∀ d x fuel, x + d = nRid σ → d < fuel → D_X6_eldest_7 st fuel (nI (EB (fun a => AG σ a (nI (S a))) x)) (if x = 0 then -9 else AG σ (EB (fun a => AG σ a (nI (S a))) x) (nI (S (EB (fun a => AG σ a (nI (S a))) x)))) (nI x) = some (nI (EB (fun a => AG σ a (nI (S a))) (nRid σ))) := by
  have h4 := h.rid4
  obtain ⟨s1, s2, s3⟩ := hs
  intro d
  induction d with
  | zero =>
    intro x fuel hx hf
    obtain ⟨f, rfl⟩ : ∃ f, fuel = f + 1 := ⟨fuel - 1, by omega⟩
    have : x = nRid σ := by omega
    subst this
    show D_X6_eldest_7b _ _ _ _ _ = _
    unfold D_X6_eldest_7b
    rw [s1 1 (by decide) (by decide), h.rid, if_pos (nI_le (Nat.le_refl _) (by omega))]
  | succ d ih =>
    intro x fuel hx hf
    obtain ⟨f, rfl⟩ : ∃ f, fuel = f + 1 := ⟨fuel - 1, by omega⟩
    obtain ⟨q1, q2, q3⟩ := s2 x (by omega)
    have e := ih (x + 1) f (by omega) (by omega)
    rw [nI_succ] at e
    show D_X6_eldest_7b _ _ _ _ _ = _
    unfold D_X6_eldest_7b D_X6_eldest_53
    rw [s1 1 (by decide) (by decide), h.rid, if_neg (nI_ge (by omega) (by omega)), inb_nI (show x < 4 by omega) (by decide), gd_true, gd_true, nI_clamp (by omega), q2, yo_eq hst, Option.bind_some, AG_cong (s1 1 (by decide) (by decide)) (s1 2 (by decide) (by decide)) (s1 (5 + x) (by omega) (by omega))]
    have hE : EB (fun a => AG σ a (nI (S a))) (x + 1) = if AG σ (EB (fun a => AG σ a (nI (S a))) x) (nI (S (EB (fun a => AG σ a (nI (S a))) x))) < AG σ x (nI (S x)) then x else EB (fun a => AG σ a (nI (S a))) x := rfl
    rw [hE, if_neg (Nat.succ_ne_zero x)] at e
    by_cases hx0 : x = 0
    · subst hx0
      have hE0 : EB (fun a => AG σ a (nI (S a))) 0 = 0 := rfl
      obtain ⟨y, g, hy, hg, -, eg⟩ := AG_ge h (show 0 < nRid σ by omega) (nI (S 0))
      rw [hE0] at e ⊢
      have q : ¬ AG σ 0 (nI (S 0)) ≤ (if (0 : Nat) = 0 then (-9 : Int32) else AG σ 0 (nI (S 0))) := by
        rw [if_pos rfl, eg, le_i, nI_toInt (by omega)]
        have : (-9 : Int32).toInt = -9 := by decide
        omega
      rw [if_neg q]
      have q2 : ¬ AG σ 0 (nI (S 0)) < AG σ 0 (nI (S 0)) := by rw [lt_i]; omega
      rw [if_neg q2] at e
      exact e
    · rw [if_neg hx0]
      by_cases hc : AG σ (EB (fun a => AG σ a (nI (S a))) x) (nI (S (EB (fun a => AG σ a (nI (S a))) x))) < AG σ x (nI (S x))
      · have q : ¬ AG σ x (nI (S x)) ≤ AG σ (EB (fun a => AG σ a (nI (S a))) x) (nI (S (EB (fun a => AG σ a (nI (S a))) x))) := by
          rw [lt_i] at hc; rw [le_i]; omega
        rw [if_neg q]
        rw [if_pos hc] at e
        exact e
      · have q : AG σ x (nI (S x)) ≤ AG σ (EB (fun a => AG σ a (nI (S a))) x) (nI (S (EB (fun a => AG σ a (nI (S a))) x))) := by
          rw [lt_i] at hc; rw [le_i]; omega
        rw [if_pos q]
        rw [if_neg hc] at e
        exact e
theorem ao_loop (h : Rel σ τ) {st : St} {S : Nat → Nat} {B : Nat} (hs : Sit σ τ st S B) {s : Nat} (hs5 : s < 5) : ∀ d x fuel, x + d = nRid σ → d < fuel → D_X7_aboveOn_5 τ (nI s) (nI B) fuel (nI (AB S s x)) (nI x) = some (nI (AB S s (nRid σ))) := by
  have h4 := h.rid4
  obtain ⟨s1, s2, s3⟩ := hs
  intro d
  induction d with
  | zero =>
    intro x fuel hx hf
    obtain ⟨f, rfl⟩ : ∃ f, fuel = f + 1 := ⟨fuel - 1, by omega⟩
    have : x = nRid σ := by omega
    subst this
    show D_X7_aboveOn_5b _ _ _ _ _ _ = _
    unfold D_X7_aboveOn_5b
    rw [h.mrid, if_pos (nI_le (Nat.le_refl _) (by omega))]
  | succ d ih =>
    intro x fuel hx hf
    obtain ⟨f, rfl⟩ : ∃ f, fuel = f + 1 := ⟨fuel - 1, by omega⟩
    obtain ⟨q1, q2, q3⟩ := s2 x (by omega)
    show D_X7_aboveOn_5b _ _ _ _ _ _ = _
    unfold D_X7_aboveOn_5b
    rw [h.mrid, if_neg (nI_ge (by omega) (by omega)), nI_add, inb_nI (show B + x < 240 by omega) (by decide), gd_true, nI_clamp (by omega), q3, bit_fin ⟨S x, q1⟩ ⟨s, hs5⟩, nI_add, ← nI_succ]
    exact ih (x + 1) f (by omega) (by omega)
theorem ao_eq (h : Rel σ τ) {st : St} {S : Nat → Nat} {B : Nat} (hs : Sit σ τ st S B) {s : Nat} (hs5 : s < 5) : D_X7_aboveOn τ (nI s) (nI B) = some (nI (AB S s (nRid σ))) := by
  have h4 := h.rid4
  exact ao_loop h hs hs5 (nRid σ) 0 FU (by omega) (FU_lt (by omega))
theorem wr_loop (h : Rel σ τ) {st : St} {S : Nat → Nat} {B : Nat} (hs : Sit σ τ st S B) : ∀ i fuel v, i ≤ 5 → i < fuel → D_X7_wrongIn_10 τ (nI B) fuel v (nI i - 1) = some (match FO (LT S (nRid σ)) (nSea σ) i with | some s => nI s | none => v) := by
  have h4 := h.rid4
  have h3 := h.sea3
  intro i
  induction i with
  | zero =>
    intro fuel v hi hf
    obtain ⟨f, rfl⟩ : ∃ f, fuel = f + 1 := ⟨fuel - 1, by omega⟩
    show D_X7_wrongIn_10b _ _ _ _ _ = _
    unfold D_X7_wrongIn_10b
    rw [if_pos (by decide)]; rfl
  | succ i ih =>
    intro fuel v hi hf
    obtain ⟨f, rfl⟩ : ∃ f, fuel = f + 1 := ⟨fuel - 1, by omega⟩
    have hab := AB_le S i (nRid σ)
    have hd := dgt_LT S h4 (show i < 5 by omega)
    show D_X7_wrongIn_10b _ _ _ _ _ = _
    unfold D_X7_wrongIn_10b D_X7_wrongIn_32
    rw [nI_pred, if_neg (nI_pos (by omega)), ao_eq h hs (by omega), Option.bind_some, h.msea, nI_sub1, FO_s, hd]
    by_cases hc : nSea σ < AB S i (nRid σ)
    · rw [if_neg (nI_ge hc (by omega)), ih f (nI i) (by omega) (by omega)]
      cases FO (LT S (nRid σ)) (nSea σ) i with
      | some s => rfl
      | none => simp [hc]
    · rw [if_pos (nI_le (by omega) (by omega)), ih f v (by omega) (by omega)]
      cases FO (LT S (nRid σ)) (nSea σ) i with
      | some s => rfl
      | none => simp [hc]
theorem wr_eq (h : Rel σ τ) {st : St} {S : Nat → Nat} {B : Nat} (hs : Sit σ τ st S B) : D_X7_wrongIn τ (nI B) = some (enc (FO (LT S (nRid σ)) (nSea σ) (nSec σ))) := by
  have h5 := h.sec5
  unfold D_X7_wrongIn
  rw [h.msec, wr_loop h hs (nSec σ) FU (-9) h5 (FU_lt (by omega))]
  cases FO (LT S (nRid σ)) (nSea σ) (nSec σ) <;> rfl
theorem sb_loop (h : Rel σ τ) {st : St} {S : Nat → Nat} {B : Nat} (hs : Sit σ τ st S B) (u : Int32) : ∀ d x fuel, x + d = nRid σ → d < fuel → D_X7_sitBy_105 τ (nI B) u fuel (SLf (fun a => decide (AG σ a (nI (S a)) = σ (5 + a) 4)) x) (nI (EB (fun a => AG σ a (nI (S a))) x)) (nI x) = D_X7_sitBy_191 τ u (SLf (fun a => decide (AG σ a (nI (S a)) = σ (5 + a) 4)) (nRid σ)) (nI (EB (fun a => AG σ a (nI (S a))) (nRid σ))) := by
  have h4 := h.rid4
  obtain ⟨s1, s2, s3⟩ := hs
  intro d
  induction d with
  | zero =>
    intro x fuel hx hf
    obtain ⟨f, rfl⟩ : ∃ f, fuel = f + 1 := ⟨fuel - 1, by omega⟩
    have : x = nRid σ := by omega
    subst this
    show D_X7_sitBy_105b _ _ _ _ _ _ _ = _
    unfold D_X7_sitBy_105b
    rw [h.mrid, if_pos (nI_le (Nat.le_refl _) (by omega))]
  | succ d ih =>
    intro x fuel hx hf
    obtain ⟨f, rfl⟩ : ∃ f, fuel = f + 1 := ⟨fuel - 1, by omega⟩
    obtain ⟨q1, q2, q3⟩ := s2 x (by omega)
    have hE := EB_lt (fun a => AG σ a (nI (S a))) x
    have hEr : EB (fun a => AG σ a (nI (S a))) x < nRid σ := by omega
    obtain ⟨r1, r2, r3⟩ := s2 _ hEr
    have e := ih (x + 1) f (by omega) (by omega)
    have hE2 : EB (fun a => AG σ a (nI (S a))) (x + 1) = if AG σ (EB (fun a => AG σ a (nI (S a))) x) (nI (S (EB (fun a => AG σ a (nI (S a))) x))) < AG σ x (nI (S x)) then x else EB (fun a => AG σ a (nI (S a))) x := rfl
    rw [nI_succ, SLf_s, hE2] at e
    show D_X7_sitBy_105b _ _ _ _ _ _ _ = _
    unfold D_X7_sitBy_105b D_X7_sitBy_153 D_X7_sitBy_183
    have hx4 : x < nRid σ := by omega
    rw [h.mrid, if_neg (nI_ge (by omega) (by omega)), nI_add, inb_nI (show B + x < 240 by omega) (by decide), gd_true, nI_clamp (show B + x < 2 ^ 31 by omega), q3, ab_eq h hx4, Option.bind_some, ri4 h hx4, gd_true, rcl h hx4, (h.rdr x hx4).2.2.2.2.1, nI_add, inb_nI (show B + EB (fun a => AG σ a (nI (S a))) x < 240 by omega) (by decide), gd_true, gd_true, nI_clamp (show B + EB (fun a => AG σ a (nI (S a))) x < 2 ^ 31 by omega), r3, ab_eq h hEr, Option.bind_some, Option.bind_some]
    by_cases hc : AG σ (EB (fun a => AG σ a (nI (S a))) x) (nI (S (EB (fun a => AG σ a (nI (S a))) x))) < AG σ x (nI (S x))
    · have q : ¬ AG σ x (nI (S x)) ≤ AG σ (EB (fun a => AG σ a (nI (S a))) x) (nI (S (EB (fun a => AG σ a (nI (S a))) x))) := by
        rw [lt_i] at hc; rw [le_i]; omega
      rw [if_pos hc] at e
      rw [if_neg q, if_neg q]
      by_cases hv : AG σ x (nI (S x)) = σ (5 + x) 4
      · rw [if_pos hv]
        simp only [hv, decide_true, if_true] at e
        exact e
      · rw [if_neg hv, Int32.or_zero]
        simp only [hv, decide_false, Bool.false_eq_true, if_false] at e
        exact e
    · have q : AG σ x (nI (S x)) ≤ AG σ (EB (fun a => AG σ a (nI (S a))) x) (nI (S (EB (fun a => AG σ a (nI (S a))) x))) := by
        rw [lt_i] at hc; rw [le_i]; omega
      rw [if_neg hc] at e
      rw [if_pos q, if_pos q]
      by_cases hv : AG σ x (nI (S x)) = σ (5 + x) 4
      · rw [if_pos hv]
        simp only [hv, decide_true, if_true] at e
        exact e
      · rw [if_neg hv, Int32.or_zero]
        simp only [hv, decide_false, Bool.false_eq_true, if_false] at e
        exact e
end P9
