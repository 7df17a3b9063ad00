section PU
variable {σ τ : St}
theorem S_uni {n S S' : Nat} {T : Nat → Int32} (h5 : S ≤ 5) (hd : ∀ i, i < S → 3 + i < n ∧ DG (T (3 + i)) 0 3 = true) (hs : S = 5 ∨ n ≤ 3 + S ∨ DG (T (3 + S)) 0 3 = false) (h5' : S' ≤ 5) (hd' : ∀ i, i < S' → 3 + i < n ∧ DG (T (3 + i)) 0 3 = true) (hs' : S' = 5 ∨ n ≤ 3 + S' ∨ DG (T (3 + S')) 0 3 = false) : S' = S := by
  rcases Nat.lt_trichotomy S' S with h | h | h
  · obtain ⟨a, b⟩ := hd S' h
    rcases hs' with q | q | q
    · omega
    · omega
    · rw [b] at q; cases q
  · exact h
  · obtain ⟨a, b⟩ := hd' S h
    rcases hs with q | q | q
    · omega
    · omega
    · rw [b] at q; cases q
theorem kd_eq (ρ : St) {c : Int32} (h : c = 114 ∨ c = 108 ∨ c = 101) : D_X3_kindOf ρ c = some (kd c) := by
  rcases h with h | h | h <;> subst h <;> rfl
theorem ap {a x : Nat} (d : Nat) : nI (a + x) + nI d = nI (a + (x + d)) := by rw [nI_add, Nat.add_assoc]
/-- one rider boards -/
theorem bo_eq {ρ : St} {k a n c X : Nat} {T : Nat → Int32} (t : TA ρ k a n T) (hc : c < 14) (hx : X + 7 < n) (hk : T (X + 1) = 114 ∨ T (X + 1) = 108 ∨ T (X + 1) = 101) : D_X4_board ρ c (14 + k) (nI (a + X)) = some (up2 (up2 (up2 (up2 (up2 ρ c 0 (kd (T (X + 1)))) c 1 (T (X + 2) - 48)) c 2 (T (X + 3) - 48)) c 3 (tw (T (X + 4)) (T (X + 5)))) c 4 (tw (T (X + 6)) (T (X + 7)))) := by
  have u : ∀ {r : St} {j : Nat} {v : Int32}, TA r k a n T → TA (up2 r c j v) k a n T := fun h => h.fr fun d hd => up2_ne d (by omega)
  unfold D_X4_board D_X3_digit D_X4_twoDigits
  rw [show nI (a + X) + 1 = nI (a + (X + 1)) from ap 1, show nI (a + X) + 2 = nI (a + (X + 2)) from ap 2, show nI (a + X) + 3 = nI (a + (X + 3)) from ap 3, show nI (a + X) + 4 = nI (a + (X + 4)) from ap 4, show nI (a + X) + 6 = nI (a + (X + 6)) from ap 6, show nI (a + (X + 4)) + 1 = nI (a + (X + 5)) from ap 1, show nI (a + (X + 6)) + 1 = nI (a + (X + 7)) from ap 1]
  rw [t.at (by omega), Option.bind_some, kd_eq ρ hk, Option.bind_some]
  have t1 := u (j := 0) (v := kd (T (X + 1))) t
  rw [t1.at (by omega), Option.bind_some]
  simp only [Option.bind_some]
  have t2 := u (j := 1) (v := T (X + 2) - 48) t1
  rw [t2.at (by omega)]
  simp only [Option.bind_some]
  have t3 := u (j := 2) (v := T (X + 3) - 48) t2
  unfold D_X3_digit
  rw [t3.at (show X + 4 < n by omega), t3.at (show X + 5 < n by omega)]
  simp only [Option.bind_some]
  have t4 := u (j := 3) (v := tw (T (X + 4)) (T (X + 5))) t3
  have a6 := t4.at (show X + 6 < n by omega)
  have a7 := t4.at (show X + 7 < n by omega)
  unfold tw at a6 a7
  rw [a6, a7]
  rfl
theorem b62_fin : ∀ S : Fin 6, ∀ R : Fin 5, (if (nI (3 + S.val + 8 * R.val) - nI (3 + S.val)) / 8 < (4 : Int32) then (nI (3 + S.val + 8 * R.val) - nI (3 + S.val)) / 8 else 4) = nI R.val := by decide +kernel
def BV (st : St) (T : Nat → Int32) (X i : Nat) : Prop := st (5 + i) 0 = kd (T (X + 1)) ∧ st (5 + i) 1 = T (X + 2) - 48 ∧ st (5 + i) 2 = T (X + 3) - 48 ∧ st (5 + i) 3 = tw (T (X + 4)) (T (X + 5)) ∧ st (5 + i) 4 = tw (T (X + 6)) (T (X + 7))
theorem b88 {k a n S R : Nat} {T : Nat → Int32} (hR : R ≤ 4) (en : n = 3 + S + 8 * R) (hn : n ≤ 60) (hk : ∀ j, j < R → RG T S (3 + S + 8 * j)) : ∀ d i fuel (st : St), i + d = R → d < fuel → TA st k a n T → st 1 5 = nI R → (∀ j, j < i → BV st T (3 + S + 8 * j) j) → ∃ st', D_X2_board_88 (14 + k) (nI a) (nI (3 + S)) fuel st (nI i) = some st' ∧ (∀ c, ¬ (5 ≤ c ∧ c ≤ 8) → st' c = st c) ∧ ∀ j, j < R → BV st' T (3 + S + 8 * j) j := by
  intro d
  induction d with
  | zero =>
    intro i fuel st hi hf t e15 hb
    obtain ⟨f, rfl⟩ : ∃ f, fuel = f + 1 := ⟨fuel - 1, by omega⟩
    have : i = R := by omega
    subst this
    refine ⟨st, ?_, fun _ _ => rfl, hb⟩
    show D_X2_board_88b _ _ _ _ _ _ = _
    unfold D_X2_board_88b
    rw [e15, if_pos (nI_le (Nat.le_refl _) (by omega))]
  | succ d ih =>
    intro i fuel st hi hf t e15 hb
    obtain ⟨f, rfl⟩ : ∃ f, fuel = f + 1 := ⟨fuel - 1, by omega⟩
    have bo := bo_eq t (c := 5 + i) (X := 3 + S + 8 * i) (by omega) (by omega) (hk i (by omega)).1
    generalize hs : up2 (up2 (up2 (up2 (up2 st (5 + i) 0 (kd (T (3 + S + 8 * i + 1)))) (5 + i) 1 (T (3 + S + 8 * i + 2) - 48)) (5 + i) 2 (T (3 + S + 8 * i + 3) - 48)) (5 + i) 3 (tw (T (3 + S + 8 * i + 4)) (T (3 + S + 8 * i + 5)))) (5 + i) 4 (tw (T (3 + S + 8 * i + 6)) (T (3 + S + 8 * i + 7))) = s1 at bo
    have fr : ∀ c, c ≠ 5 + i → s1 c = st c := fun c hc => by rw [← hs, up2_ne c hc, up2_ne c hc, up2_ne c hc, up2_ne c hc, up2_ne c hc]
    obtain ⟨st', r1, r2, r3⟩ := ih (i + 1) f s1 (by omega) (by omega) (t.fr fun c hc => fr c (by omega)) (by rw [fr 1 (by omega)]; exact e15) (fun j hj => by
      by_cases e : j = i
      · subst e
        refine ⟨?_, ?_, ?_, ?_, ?_⟩
        · rw [← hs, up2_j (by decide), up2_j (by decide), up2_j (by decide), up2_j (by decide), up2_s]
        · rw [← hs, up2_j (by decide), up2_j (by decide), up2_j (by decide), up2_s]
        · rw [← hs, up2_j (by decide), up2_j (by decide), up2_s]
        · rw [← hs, up2_j (by decide), up2_s]
        · rw [← hs, up2_s]
      · unfold BV
        rw [fr (5 + j) (by omega)]
        exact hb j (by omega))
    refine ⟨st', ?_, fun c hc => (r2 c hc).trans (fr c (by omega)), r3⟩
    show D_X2_board_88b _ _ _ _ _ _ = _
    unfold D_X2_board_88b
    rw [e15, if_neg (nI_ge (by omega) (by omega)), inb_nI (show i < 4 by omega) (by decide), gd_true, nI_clamp (by omega), show nI a + nI (3 + S) + 8 * nI i = nI (a + (3 + S + 8 * i)) by rw [show (8 : Int32) = nI 8 from rfl, pk_mul, nI_add, nI_add, Nat.add_assoc], bo, Option.bind_some, ← nI_succ]
    exact r1
theorem b27 {k a n S : Nat} {T : Nat → Int32} (h5 : S ≤ 5) (hd : ∀ i, i < S → 3 + i < n) : ∀ d j fuel (st : St), j + d = S → d < fuel → TA st k a n T → st 1 4 = nI S → (∀ s, s < j → st 2 s = T (3 + s) - 48) → ∃ st', D_X2_board_27 (14 + k) (nI a) (nI n) fuel st (nI j) = D_X2_board_62 st' (14 + k) (nI a) (nI n) ∧ (∀ c, c ≠ 2 → st' c = st c) ∧ ∀ s, s < S → st' 2 s = T (3 + s) - 48 := by
  intro d
  induction d with
  | zero =>
    intro j fuel st hj hf t e hb
    obtain ⟨f, rfl⟩ : ∃ f, fuel = f + 1 := ⟨fuel - 1, by omega⟩
    have : j = S := by omega
    subst this
    refine ⟨st, ?_, fun _ _ => rfl, hb⟩
    show D_X2_board_27b _ _ _ _ _ _ = _
    unfold D_X2_board_27b
    rw [e, if_pos (nI_le (Nat.le_refl _) (by omega))]
  | succ d ih =>
    intro j fuel st hj hf t e hb
    obtain ⟨f, rfl⟩ : ∃ f, fuel = f + 1 := ⟨fuel - 1, by omega⟩
    obtain ⟨st', r1, r2, r3⟩ := ih (j + 1) f (up2 st 2 j (T (3 + j) - 48)) (by omega) (by omega) (t.fr fun c hc => up2_ne c (by omega)) (by rw [up2_c (by decide)]; exact e) (fun s hs => by
      by_cases q : s = j
      · rw [q, up2_s]
      · rw [up2_j q]; exact hb s (by omega))
    refine ⟨st', ?_, fun c hc => (r2 c hc).trans (up2_ne c hc), r3⟩
    show D_X2_board_27b _ _ _ _ _ _ = _
    unfold D_X2_board_27b D_X3_digit
    rw [e, if_neg (nI_ge (by omega) (by omega)), show nI a + (3 : Int32) + nI j = nI (a + (3 + j)) by rw [← Nat.add_assoc, ← nI_add, ← nI_add]; rfl, t.at (hd j (by omega)), Option.bind_some, Option.bind_some, inb_nI (show j < 5 by omega) (by decide), gd_true, nI_clamp (by omega), ← nI_succ]
    exact r1
/-- the class takes the ride -/
theorem bd_eq {ρ : St} {k a n S R : Nat} {T : Nat → Int32} (t : TA ρ k a n T) (h1 : 1 ≤ S) (h5 : S ≤ 5) (hd : ∀ i, i < S → 3 + i < n ∧ DG (T (3 + i)) 0 3 = true) (hs : S = 5 ∨ n ≤ 3 + S ∨ DG (T (3 + S)) 0 3 = false) (hR : R ≤ 4) (en : n = 3 + S + 8 * R) (hk : ∀ j, j < R → RG T S (3 + S + 8 * j)) : ∃ ρ', D_X2_board ρ (14 + k) (nI a) (nI n) = some ρ' ∧ (∀ c, c ≠ 1 → c ≠ 2 → ¬ (5 ≤ c ∧ c ≤ 8) → ρ' c = ρ c) ∧ ρ' 1 3 = T 1 - 48 ∧ ρ' 1 4 = nI S ∧ ρ' 1 5 = nI R ∧ (∀ s, s < S → ρ' 2 s = T (3 + s) - 48) ∧ ∀ j, j < R → BV ρ' T (3 + S + 8 * j) j := by
  have hn := t.le
  have t1 : TA (up2 ρ 1 3 (T 1 - 48)) k a n T := t.fr fun c hc => up2_ne c (by omega)
  obtain ⟨S', q1, q2, q3, q4⟩ := st_eq t1
  have eS := S_uni h5 hd hs q1 q3 q4
  subst eS
  have t2 : TA (up2 (up2 ρ 1 3 (T 1 - 48)) 1 4 (nI S')) k a n T := t1.fr fun c hc => up2_ne c (by omega)
  obtain ⟨s1, r1, r2, r3⟩ := b27 (n := n) h5 (fun i hi => (hd i hi).1) S' 0 FU _ (by omega) (FU_lt (by omega)) t2 up2_s (fun s hs => absurd hs (Nat.not_lt_zero s))
  have e14 : s1 1 4 = nI S' := by rw [r2 1 (by decide), up2_s]
  have t3 : TA (up2 s1 1 5 (nI R)) k a n T := t2.fr fun c hc => by rw [up2_ne c (by omega), r2 c (by omega)]
  obtain ⟨s2, p1, p2, p3⟩ := b88 hR en (by omega) hk R 0 FU _ (by omega) (FU_lt (by omega)) t3 up2_s (fun j hj => absurd hj (Nat.not_lt_zero j))
  refine ⟨s2, ?_, fun c c1 c2 c3 => ?_, ?_, ?_, ?_, ?_, p3⟩
  · unfold D_X2_board D_X3_digit
    rw [show nI a + 1 = nI (a + 1) from nI_add a 1, t.at (by omega), Option.bind_some, Option.bind_some, q2, Option.bind_some]
    refine Eq.trans r1 ?_
    unfold D_X2_board_62
    rw [e14, show (3 : Int32) + nI S' = nI (3 + S') from nI_add 3 S', en, b62_fin ⟨S', by omega⟩ ⟨R, by omega⟩]
    exact p1
  · rw [p2 c c3, up2_ne c c1, r2 c c2, up2_ne c c1, up2_ne c c1]
  · rw [p2 1 (by decide), up2_j (by decide), r2 1 (by decide), up2_j (by decide), up2_s]
  · rw [p2 1 (by decide), up2_j (by decide)]; exact e14
  · rw [p2 1 (by decide), up2_s]
  · intro s hs
    rw [p2 2 (by decide), up2_ne 2 (by decide)]; exact r3 s hs
theorem m106 {S : Nat} (h5 : S ≤ 5) : ∀ d j fuel (st : St), j + d = S → d < fuel → st 0 2 = nI S → (∀ s, s < j → st 1 s = st 7 s) → ∃ st', D_X7_ride_106 fuel st (nI j) = D_X7_ride_135 st' ∧ (∀ c, c ≠ 1 → st' c = st c) ∧ ∀ s, s < S → st' 1 s = st 7 s := by
  intro d
  induction d with
  | zero =>
    intro j fuel st hj hf e hb
    obtain ⟨f, rfl⟩ : ∃ f, fuel = f + 1 := ⟨fuel - 1, by omega⟩
    have : j = S := by omega
    subst this
    refine ⟨st, ?_, fun _ _ => rfl, hb⟩
    show D_X7_ride_106b _ _ _ = _
    unfold D_X7_ride_106b
    rw [e, if_pos (nI_le (Nat.le_refl _) (by omega))]
  | succ d ih =>
    intro j fuel st hj hf e hb
    obtain ⟨f, rfl⟩ : ∃ f, fuel = f + 1 := ⟨fuel - 1, by omega⟩
    obtain ⟨st', r1, r2, r3⟩ := ih (j + 1) f (up2 st 1 j (st 7 j)) (by omega) (by omega) (by rw [up2_c (by decide)]; exact e) (fun s hs => by
      rw [up2_c (c' := 7) (by decide)]
      by_cases q : s = j
      · rw [q, up2_s]
      · rw [up2_j q]; exact hb s (by omega))
    refine ⟨st', ?_, fun c hc => (r2 c hc).trans (up2_ne c hc), fun s hs => (r3 s hs).trans (up2_c (by decide))⟩
    show D_X7_ride_106b _ _ _ = _
    unfold D_X7_ride_106b
    rw [e, if_neg (nI_ge (by omega) (by omega)), inb_nI (show j < 5 by omega) (by decide), gd_true, gd_true, nI_clamp (by omega), ← nI_succ]
    exact r1
def MV (st' st : St) (i : Nat) : Prop := st' 2 i = st 8 i ∧ st' 3 i = st 9 i ∧ st' 4 i = st 10 i ∧ st' 5 i = st 11 i ∧ st' 6 i = st 12 i
theorem m138 {R : Nat} (h4 : R ≤ 4) (ρ : St) : ∀ d i fuel (st : St), i + d = R → d < fuel → st 0 4 = nI R → (∀ c, ¬ (2 ≤ c ∧ c ≤ 6) → st c = ρ c) → (∀ j, j < i → MV st ρ j) → ∃ st', D_X7_ride_138 fuel st (nI i) = D_X7_ride_223 st' ∧ (∀ c, ¬ (2 ≤ c ∧ c ≤ 6) → st' c = ρ c) ∧ ∀ j, j < R → MV st' ρ j := by
  intro d
  induction d with
  | zero =>
    intro i fuel st hj hf e hr hb
    obtain ⟨f, rfl⟩ : ∃ f, fuel = f + 1 := ⟨fuel - 1, by omega⟩
    have : i = R := by omega
    subst this
    refine ⟨st, ?_, hr, hb⟩
    show D_X7_ride_138b _ _ _ = _
    unfold D_X7_ride_138b
    rw [e, if_pos (nI_le (Nat.le_refl _) (by omega))]
  | succ d ih =>
    intro i fuel st hj hf e hr hb
    obtain ⟨f, rfl⟩ : ∃ f, fuel = f + 1 := ⟨fuel - 1, by omega⟩
    have k8 := hr 8 (by decide)
    have k9 := hr 9 (by decide)
    have k10 := hr 10 (by decide)
    have k11 := hr 11 (by decide)
    have k12 := hr 12 (by decide)
    obtain ⟨st', r1, r2, r3⟩ := ih (i + 1) f (up2 (up2 (up2 (up2 (up2 st 2 i (ρ 8 i)) 3 i (ρ 9 i)) 4 i (ρ 10 i)) 5 i (ρ 11 i)) 6 i (ρ 12 i)) (by omega) (by omega) (by rw [up2_c (by decide), up2_c (by decide), up2_c (by decide), up2_c (by decide), up2_c (by decide)]; exact e) (fun c hc => by rw [up2_ne c (by omega), up2_ne c (by omega), up2_ne c (by omega), up2_ne c (by omega), up2_ne c (by omega)]; exact hr c hc) (fun j hj => by
      by_cases q : j = i
      · subst q
        refine ⟨?_, ?_, ?_, ?_, ?_⟩
        · rw [up2_c (by decide), up2_c (by decide), up2_c (by decide), up2_c (by decide), up2_s]
        · rw [up2_c (by decide), up2_c (by decide), up2_c (by decide), up2_s]
        · rw [up2_c (by decide), up2_c (by decide), up2_s]
        · rw [up2_c (by decide), up2_s]
        · rw [up2_s]
      · obtain ⟨m1, m2, m3, m4, m5⟩ := hb j (by omega)
        refine ⟨?_, ?_, ?_, ?_, ?_⟩
        · rw [up2_c (by decide), up2_c (by decide), up2_c (by decide), up2_c (by decide), up2_j q]; exact m1
        · rw [up2_c (by decide), up2_c (by decide), up2_c (by decide), up2_j q, up2_c (by decide)]; exact m2
        · rw [up2_c (by decide), up2_c (by decide), up2_j q, up2_c (by decide), up2_c (by decide)]; exact m3
        · rw [up2_c (by decide), up2_j q, up2_c (by decide), up2_c (by decide), up2_c (by decide)]; exact m4
        · rw [up2_j q, up2_c (by decide), up2_c (by decide), up2_c (by decide), up2_c (by decide)]; exact m5)
    refine ⟨st', ?_, r2, r3⟩
    show D_X7_ride_138b _ _ _ = _
    unfold D_X7_ride_138b
    have c1 : ∀ {s : St} {a b j v} , 2 ≤ a → a ≤ 6 → 8 ≤ b → up2 s a j v b i = s b i := fun h1 h2 h3 => up2_c (by omega)
    rw [e, if_neg (nI_ge (by omega) (by omega)), inb_nI (show i < 4 by omega) (by decide)]
    simp only [gd_true, nI_clamp (show i < 2 ^ 31 by omega)]
    rw [up2_c (c := 2) (c' := 9) (by decide), up2_c (c := 3) (c' := 10) (by decide), up2_c (c := 2) (c' := 10) (by decide), up2_c (c := 4) (c' := 11) (by decide), up2_c (c := 3) (c' := 11) (by decide), up2_c (c := 2) (c' := 11) (by decide), up2_c (c := 5) (c' := 12) (by decide), up2_c (c := 4) (c' := 12) (by decide), up2_c (c := 3) (c' := 12) (by decide), up2_c (c := 2) (c' := 12) (by decide), k8, k9, k10, k11, k12, ← nI_succ]
    exact r1
end PU
