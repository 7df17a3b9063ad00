/-! Integer.bitCount of 24 bits; SPREAD -/
theorem and256 (x y : Nat) : x &&& y = (x % 256 &&& y % 256) + 256 * (x / 256 &&& y / 256) := by
  have h1 : (x &&& y) % 2 ^ 8 = x % 2 ^ 8 &&& y % 2 ^ 8 := Nat.and_mod_two_pow
  have h2 : (x &&& y) / 2 ^ 8 = x / 2 ^ 8 &&& y / 2 ^ 8 := Nat.and_div_two_pow
  have h3 := Nat.mod_add_div (x &&& y) (2 ^ 8)
  rw [h1, h2] at h3
  exact h3.symm
theorem and3 (x y : Nat) : x &&& y = (x % 256 &&& y % 256) + 256 * (x / 256 % 256 &&& y / 256 % 256) + 65536 * (x / 65536 &&& y / 65536) := by
  rw [and256 x y, and256 (x / 256) (y / 256), Nat.div_div_eq_div_mul, Nat.div_div_eq_div_mul, show 256 * 256 = 65536 from rfl]
  omega
theorem f1a : ∀ a : Fin 256, ∀ k : Fin 2, (a.val / 2 + 128 * k.val) &&& 85 = a.val / 2 &&& 85 := by decide +kernel
theorem f1b : ∀ a : Fin 256, a.val / 2 &&& 21845 = a.val / 2 &&& 85 := by decide +kernel
theorem f2a : ∀ a : Fin 256, ∀ k : Fin 4, (a.val / 4 + 64 * k.val) &&& 51 = a.val / 4 &&& 51 := by decide +kernel
theorem f2b : ∀ a : Fin 256, a.val / 4 &&& 13107 = a.val / 4 &&& 51 ∧ a.val &&& 13107 = a.val &&& 51 := by decide +kernel
def z8 (y : Nat) : Nat := (y &&& 51) + (y / 4 &&& 51)
def s8 (a : Nat) : Nat := a - (a / 2 &&& 85)
def w8 (a : Nat) : Nat := (z8 (s8 a) + z8 (s8 a) / 16) % 16
theorem f3 : ∀ y : Fin 256, z8 y.val ≤ 102 ∧ z8 y.val % 16 ≤ 6 := by decide +kernel
theorem f4 : ∀ a : Fin 256, s8 a.val < 256 ∧ (a.val / 2 &&& 85) ≤ a.val := by decide +kernel
theorem st1 {a b c : Nat} (ha : a < 256) (hb : b < 256) (hc : c < 256) : (a + 256 * b + 65536 * c) - ((a + 256 * b + 65536 * c) / 2 &&& 1431655765) = s8 a + 256 * s8 b + 65536 * s8 c := by
  rw [and3, show 1431655765 % 256 = 85 from rfl, show 1431655765 / 65536 = 21845 from rfl]
  rw [show (a + 256 * b + 65536 * c) / 2 % 256 = a / 2 + 128 * (b % 2) by omega, show (a + 256 * b + 65536 * c) / 2 / 256 % 256 = b / 2 + 128 * (c % 2) by omega, show (a + 256 * b + 65536 * c) / 2 / 65536 = c / 2 by omega]
  have x1 : (a / 2 + 128 * (b % 2)) &&& 85 = a / 2 &&& 85 := f1a ⟨a, ha⟩ ⟨b % 2, by omega⟩
  have x2 : (b / 2 + 128 * (c % 2)) &&& 85 = b / 2 &&& 85 := f1a ⟨b, hb⟩ ⟨c % 2, by omega⟩
  have x3 : c / 2 &&& 21845 = c / 2 &&& 85 := f1b ⟨c, hc⟩
  rw [x1, x2, x3]
  have ga := (f4 ⟨a, ha⟩).2
  have gb := (f4 ⟨b, hb⟩).2
  have gc := (f4 ⟨c, hc⟩).2
  simp only at ga gb gc
  unfold s8
  omega
theorem st2 {a b c : Nat} (ha : a < 256) (hb : b < 256) (hc : c < 256) : ((a + 256 * b + 65536 * c) &&& 858993459) + ((a + 256 * b + 65536 * c) / 4 &&& 858993459) = z8 a + 256 * z8 b + 65536 * z8 c := by
  rw [and3 (a + 256 * b + 65536 * c), and3 ((a + 256 * b + 65536 * c) / 4), show 858993459 % 256 = 51 from rfl, show 858993459 / 65536 = 13107 from rfl]
  rw [show (a + 256 * b + 65536 * c) % 256 = a by omega, show (a + 256 * b + 65536 * c) / 256 % 256 = b by omega, show (a + 256 * b + 65536 * c) / 65536 = c by omega, show (a + 256 * b + 65536 * c) / 4 % 256 = a / 4 + 64 * (b % 4) by omega, show (a + 256 * b + 65536 * c) / 4 / 256 % 256 = b / 4 + 64 * (c % 4) by omega, show (a + 256 * b + 65536 * c) / 4 / 65536 = c / 4 by omega]
  rw [f2a ⟨a, ha⟩ ⟨b % 4, by omega⟩, f2a ⟨b, hb⟩ ⟨c % 4, by omega⟩, (f2b ⟨c, hc⟩).1, (f2b ⟨c, hc⟩).2]
  unfold z8
  simp only
  omega
theorem and15 (x : Nat) : x &&& 15 = x % 16 := Nat.and_two_pow_sub_one_eq_mod x 4
theorem st3 {a b c : Nat} (ha : a ≤ 102) (hb : b ≤ 102) (hc : c ≤ 102) (hb6 : b % 16 ≤ 6) (hc6 : c % 16 ≤ 6) : ((a + 256 * b + 65536 * c) + (a + 256 * b + 65536 * c) / 16) &&& 252645135 = (a + a / 16) % 16 + 256 * ((b + b / 16) % 16) + 65536 * ((c + c / 16) % 16) := by
  have e0 : (a + 256 * b + 65536 * c) / 16 = (a / 16 + 16 * (b % 16)) + 256 * (b / 16 + 16 * (c % 16)) + 65536 * (c / 16) := by omega
  obtain ⟨A, eA⟩ : ∃ A, A = a + a / 16 + 16 * (b % 16) := ⟨_, rfl⟩
  obtain ⟨B, eB⟩ : ∃ B, B = b + b / 16 + 16 * (c % 16) := ⟨_, rfl⟩
  obtain ⟨C, eC⟩ : ∃ C, C = c + c / 16 := ⟨_, rfl⟩
  have eN : (a + 256 * b + 65536 * c) + (a + 256 * b + 65536 * c) / 16 = A + 256 * B + 65536 * C := by rw [e0]; omega
  have hA : A < 256 := by omega
  have hB : B < 256 := by omega
  have hC : C < 256 := by omega
  rw [eN, and3, show 252645135 % 256 = 15 from rfl, show 252645135 / 65536 = 3855 from rfl]
  rw [show (A + 256 * B + 65536 * C) % 256 = A by omega, show (A + 256 * B + 65536 * C) / 256 % 256 = B by omega, show (A + 256 * B + 65536 * C) / 65536 = C by omega]
  rw [and15, and15, and256 C 3855, show 3855 % 256 = 15 from rfl, show C % 256 = C by omega, show C / 256 = 0 by omega, Nat.zero_and, and15]
  have m1 : A % 16 = (a + a / 16) % 16 := by omega
  have m2 : B % 16 = (b + b / 16) % 16 := by omega
  rw [m1, m2, eC, Nat.mul_zero, Nat.add_zero]
theorem st5 {a b c : Nat} (ha : a < 16) (hb : b < 16) (hc : c < 16) : (((a + 256 * b + 65536 * c) + (a + 256 * b + 65536 * c) / 256) + ((a + 256 * b + 65536 * c) + (a + 256 * b + 65536 * c) / 256) / 65536) &&& 63 = a + b + c := by
  rw [show (63 : Nat) = 2 ^ 6 - 1 from rfl, Nat.and_two_pow_sub_one_eq_mod, show (a + 256 * b + 65536 * c) / 256 = b + 256 * c by omega, show (a + 256 * b + 65536 * c + (b + 256 * c)) / 65536 = c by omega]
  omega
theorem us (n : Nat) (hn : n < 2 ^ 32) : ((nI n).toUInt32 >>> ((1 : Int32).toUInt32 &&& Int32.toUInt32 31)).toInt32 = nI (n / 2) ∧ ((nI n).toUInt32 >>> ((2 : Int32).toUInt32 &&& Int32.toUInt32 31)).toInt32 = nI (n / 4) ∧ ((nI n).toUInt32 >>> ((4 : Int32).toUInt32 &&& Int32.toUInt32 31)).toInt32 = nI (n / 16) ∧ ((nI n).toUInt32 >>> ((8 : Int32).toUInt32 &&& Int32.toUInt32 31)).toInt32 = nI (n / 256) ∧ ((nI n).toUInt32 >>> ((16 : Int32).toUInt32 &&& Int32.toUInt32 31)).toInt32 = nI (n / 65536) :=
  ⟨pk_ushrN hn 1 1 (by decide), pk_ushrN hn 2 2 (by decide), pk_ushrN hn 4 4 (by decide), pk_ushrN hn 8 8 (by decide), pk_ushrN hn 16 16 (by decide)⟩
theorem bcN (ρ : St) {a b c : Nat} (ha : a < 256) (hb : b < 256) (hc : c < 256) : D_J6_bitCount_0f7a4 ρ (nI (a + 256 * b + 65536 * c)) = some (nI (w8 a + w8 b + w8 c)) := by
  have ga := f4 ⟨a, ha⟩
  have gb := f4 ⟨b, hb⟩
  have gc := f4 ⟨c, hc⟩
  simp only at ga gb gc
  have za := f3 ⟨s8 a, ga.1⟩
  have zb := f3 ⟨s8 b, gb.1⟩
  have zc := f3 ⟨s8 c, gc.1⟩
  simp only at za zb zc
  have e1 : nI (a + 256 * b + 65536 * c) - (((nI (a + 256 * b + 65536 * c)).toUInt32 >>> ((1 : Int32).toUInt32 &&& Int32.toUInt32 31)).toInt32 &&& (1431655765 : Int32)) = nI (s8 a + 256 * s8 b + 65536 * s8 c) := by
    rw [(us _ (by omega)).1, show (1431655765 : Int32) = nI 1431655765 from rfl, and_nI, pk_sub, st1 ha hb hc]
    have := st1 ha hb hc
    have := Nat.and_le_left (n := (a + 256 * b + 65536 * c) / 2) (m := 1431655765)
    omega
  have e2 : (nI (s8 a + 256 * s8 b + 65536 * s8 c) &&& (858993459 : Int32)) + (((nI (s8 a + 256 * s8 b + 65536 * s8 c)).toUInt32 >>> ((2 : Int32).toUInt32 &&& Int32.toUInt32 31)).toInt32 &&& (858993459 : Int32)) = nI (z8 (s8 a) + 256 * z8 (s8 b) + 65536 * z8 (s8 c)) := by
    rw [(us _ (by omega)).2.1, show (858993459 : Int32) = nI 858993459 from rfl, and_nI, and_nI, nI_add, st2 ga.1 gb.1 gc.1]
  have e3 : (nI (z8 (s8 a) + 256 * z8 (s8 b) + 65536 * z8 (s8 c)) + ((nI (z8 (s8 a) + 256 * z8 (s8 b) + 65536 * z8 (s8 c))).toUInt32 >>> ((4 : Int32).toUInt32 &&& Int32.toUInt32 31)).toInt32) &&& (252645135 : Int32) = nI (w8 a + 256 * w8 b + 65536 * w8 c) := by
    rw [(us _ (by omega)).2.2.1, show (252645135 : Int32) = nI 252645135 from rfl, nI_add, and_nI, st3 za.1 zb.1 zc.1 zb.2 zc.2]; rfl
  have wa : w8 a < 16 := Nat.mod_lt _ (by decide)
  have wb : w8 b < 16 := Nat.mod_lt _ (by decide)
  have wc : w8 c < 16 := Nat.mod_lt _ (by decide)
  have e4 : nI (w8 a + 256 * w8 b + 65536 * w8 c) + ((nI (w8 a + 256 * w8 b + 65536 * w8 c)).toUInt32 >>> ((8 : Int32).toUInt32 &&& Int32.toUInt32 31)).toInt32 = nI ((w8 a + 256 * w8 b + 65536 * w8 c) + (w8 a + 256 * w8 b + 65536 * w8 c) / 256) := by
    rw [(us _ (by omega)).2.2.2.1, nI_add]
  have e5 : (nI ((w8 a + 256 * w8 b + 65536 * w8 c) + (w8 a + 256 * w8 b + 65536 * w8 c) / 256) + ((nI ((w8 a + 256 * w8 b + 65536 * w8 c) + (w8 a + 256 * w8 b + 65536 * w8 c) / 256)).toUInt32 >>> ((16 : Int32).toUInt32 &&& Int32.toUInt32 31)).toInt32) &&& (63 : Int32) = nI (w8 a + w8 b + w8 c) := by
    rw [(us _ (by omega)).2.2.2.2, show (63 : Int32) = nI 63 from rfl, nI_add, and_nI, st5 wa wb wc]
  unfold D_J6_bitCount_0f7a4
  rw [e1, e2, e3, e4, e5]
/-- how many of the first n bits are there -/
def ct (m : Nat) : Nat → Nat
  | 0 => 0
  | n + 1 => ct m n + (if m.testBit n then 1 else 0)
theorem ct_add (m : Nat) (k : Nat) : ∀ n, ct m (k + n) = ct m k + ct (m / 2 ^ k) n := by
  intro n
  induction n with
  | zero => rfl
  | succ n ih =>
    show ct m (k + n) + _ = ct m k + (ct (m / 2 ^ k) n + _)
    rw [ih, Nat.testBit_div_two_pow, Nat.add_comm n k, Nat.add_assoc]; rfl
theorem ct_mod (m k : Nat) : ∀ n, n ≤ k → ct (m % 2 ^ k) n = ct m n := by
  intro n
  induction n with
  | zero => intro _; rfl
  | succ n ih =>
    intro hn
    show ct _ n + _ = ct _ n + _
    rw [ih (by omega), Nat.testBit_mod_two_pow]
    simp [show n < k by omega]
theorem w8_ct : ∀ a : Fin 256, w8 a.val = ct a.val 8 := by decide +kernel
theorem bc24 (ρ : St) {m : Nat} (hm : m < 2 ^ 24) : D_J6_bitCount_0f7a4 ρ (nI m) = some (nI (ct m 24)) := by
  have e := bcN ρ (a := m % 256) (b := m / 256 % 256) (c := m / 65536) (by omega) (by omega) (by omega)
  rw [show m % 256 + 256 * (m / 256 % 256) + 65536 * (m / 65536) = m by omega] at e
  rw [e, w8_ct ⟨m % 256, by omega⟩, w8_ct ⟨m / 256 % 256, by omega⟩, w8_ct ⟨m / 65536, by omega⟩]
  congr 2
  have c1 := ct_add m 8 16
  have c2 := ct_add (m / 2 ^ 8) 8 8
  have c3 := ct_mod m 8 8 (Nat.le_refl _)
  have c4 := ct_mod (m / 2 ^ 8) 8 8 (Nat.le_refl _)
  rw [Nat.div_div_eq_div_mul] at c2
  simp only [show (2 : Nat) ^ 8 = 256 from rfl, show 256 * 256 = 65536 from rfl] at c1 c2 c3 c4
  show ct (m % 256) 8 + ct (m / 256 % 256) 8 + ct (m / 65536) 8 = ct m (8 + 16)
  rw [c1, show (16 : Nat) = 8 + 8 from rfl, c2, c3, c4]
  omega
theorem or_nI (a b : Nat) : nI a ||| nI b = nI (a ||| b) := by
  apply Int32.toBitVec_inj.mp
  show BitVec.ofNat 32 a ||| BitVec.ofNat 32 b = BitVec.ofNat 32 (a ||| b)
  rw [BitVec.ofNat_or]
theorem p2_fin : ∀ g : Fin 21, (1 : Int32) <<< (nI g.val &&& 31) = nI (2 ^ g.val) := by decide +kernel
section PB
variable {σ τ : St}
def gsN (σ : St) (a n : Nat) : Nat := (AG σ a (nI n) - σ (5 + a) 3).toNatClampNeg
theorem gs_eq (h : Rel σ τ) {a : Nat} (ha : a < nRid σ) (n : Nat) : gsN σ a n ≤ 20 ∧ AG σ a (nI n) - σ (5 + a) 3 = nI (gsN σ a n) ∧ ∃ y, y ≤ 79 ∧ σ (5 + a) 3 = nI y ∧ AG σ a (nI n) = nI (y + gsN σ a n) := by
  obtain ⟨y, g, hy, hg, e1, e2⟩ := AG_ge h ha (nI n)
  have e3 : AG σ a (nI n) - σ (5 + a) 3 = nI g := by
    rw [e1, e2, pk_sub (by omega)]; congr 1; omega
  have e4 : gsN σ a n = g := by unfold gsN; rw [e3]; exact nI_clamp (by omega)
  rw [e4]
  exact ⟨hg, e3, y, hy, e1, e2⟩
def GM (σ : St) (a : Nat) : Nat → Nat
  | 0 => 0
  | n + 1 => if MS σ a n then GM σ a n ||| 2 ^ gsN σ a n else GM σ a n
theorem GM_s (σ : St) (a n : Nat) : GM σ a (n + 1) = if MS σ a n then GM σ a n ||| 2 ^ gsN σ a n else GM σ a n := rfl
theorem GM_lt (h : Rel σ τ) {a : Nat} (ha : a < nRid σ) : ∀ n, GM σ a n < 2 ^ 21 := by
  intro n
  induction n with
  | zero => exact (by decide : 0 < 2 ^ 21)
  | succ n ih =>
    rw [GM_s]
    have := (gs_eq h ha n).1
    split
    · exact Nat.or_lt_two_pow ih (Nat.pow_lt_pow_right (by decide) (by omega))
    · exact ih
theorem GM_bit (σ : St) (a v : Nat) : ∀ n, (GM σ a n).testBit v = true ↔ ∃ m, m < n ∧ MS σ a m = true ∧ gsN σ a m = v := by
  intro n
  induction n with
  | zero =>
    constructor
    · intro h; simp [GM] at h
    · rintro ⟨m, hm, -⟩; omega
  | succ n ih =>
    rw [GM_s]
    cases hm : MS σ a n
    · simp only [Bool.false_eq_true, if_false]
      rw [ih]
      constructor
      · rintro ⟨m, h1, h2, h3⟩; exact ⟨m, by omega, h2, h3⟩
      · rintro ⟨m, h1, h2, h3⟩
        by_cases e : m = n
        · rw [e, hm] at h2; cases h2
        · exact ⟨m, by omega, h2, h3⟩
    · simp only [if_true]
      rw [Nat.testBit_or, Bool.or_eq_true, ih, Nat.testBit_two_pow]
      constructor
      · rintro (⟨m, h1, h2, h3⟩ | h)
        · exact ⟨m, by omega, h2, h3⟩
        · exact ⟨n, by omega, hm, of_decide_eq_true h⟩
      · rintro ⟨m, h1, h2, h3⟩
        by_cases e : m = n
        · right; rw [← h3, e]; exact decide_eq_true rfl
        · left; exact ⟨m, by omega, h2, h3⟩
theorem GM_stop (h : Rel σ τ) {a : Nat} (ha : a < nRid σ) {w : Nat} (hw : w < 32) (ew : OW σ a = nI w) : ∀ k, w + 1 + k ≤ 32 → GM σ a (w + 1 + k) = GM σ a (w + 1) := by
  intro k
  induction k with
  | zero => intro _; rfl
  | succ k ih =>
    intro hk
    have e := MS_own h ha hw ew (n := w + 1 + k) (by omega) (by omega)
    rw [← Nat.add_assoc, GM_s]
    unfold MS
    rw [e]
    exact ih (by omega)
theorem sp_c (h : Rel σ τ) {a : Nat} (ha : a < nRid σ) {w : Nat} (hw : w < 32) (ew : OW σ a = nI w) : ∀ d n fuel, n + d = w + 1 → d < fuel → D_X6_spread_28 σ (5 + a) fuel (nI (GM σ a n)) (nI n) = D_X6_spread_76 σ (nI (GM σ a (w + 1))) := by
  intro d
  induction d with
  | zero =>
    intro n fuel hn hf
    obtain ⟨k, rfl⟩ : ∃ k, fuel = k + 1 := ⟨fuel - 1, by omega⟩
    have : n = w + 1 := by omega
    subst this
    show D_X6_spread_28b _ _ _ _ _ = _
    unfold D_X6_spread_28b
    rw [own_eq, Option.bind_some]
    show (if OW σ a < _ then _ else _) = _
    rw [ew, if_pos ((own_lt hw (by omega)).mpr (by omega))]
  | succ d ih =>
    intro n fuel hn hf
    obtain ⟨k, rfl⟩ : ∃ k, fuel = k + 1 := ⟨fuel - 1, by omega⟩
    have e := ih (n + 1) k (by omega) (by omega)
    rw [nI_succ, GM_s] at e
    obtain ⟨g1, g2, -⟩ := gs_eq h ha n
    show D_X6_spread_28b _ _ _ _ _ = _
    unfold D_X6_spread_28b D_X6_spread_70
    rw [own_eq, Option.bind_some]
    show (if OW σ a < _ then _ else _) = _
    rw [ew, if_neg (fun q => by have := (own_lt hw (by omega)).mp q; omega), csa_eq h a (by omega), Option.bind_some, yo_eq h, Option.bind_some, g2, p2_fin ⟨gsN σ a n, by omega⟩, or_nI]
    cases hm : MS σ a n
    · rw [hm] at e
      simpa using e
    · rw [hm] at e
      simpa [i10] using e
def cw (σ : St) (a : Nat) : Nat → Nat
  | 0 => 0
  | i + 1 => cw σ a i + (if (GM σ a 32).testBit i then 1 else 0)
theorem cw_ct (σ : St) (a : Nat) : ∀ i, cw σ a i = ct (GM σ a 32) i := by
  intro i
  induction i with
  | zero => rfl
  | succ i ih => show cw σ a i + _ = ct _ i + _; rw [ih]
theorem sp_m (h : Rel σ τ) {a : Nat} (ha : a < nRid σ) {y : Nat} (hy : y ≤ 79) (ey : σ (5 + a) 3 = nI y) : ∀ d i fuel, i + d = 21 → d < fuel → D_X7_spread_19 τ (nI a) fuel (nI (cw σ a i)) (nI (y + i)) = some (nI (cw σ a 21)) := by
  have et : τ 5 a = nI y := (h.rdr a ha).2.2.2.1.trans ey
  intro d
  induction d with
  | zero =>
    intro i fuel hi hf
    obtain ⟨k, rfl⟩ : ∃ k, fuel = k + 1 := ⟨fuel - 1, by omega⟩
    have : i = 21 := by omega
    subst this
    show D_X7_spread_19b _ _ _ _ _ = _
    unfold D_X7_spread_19b
    have q : nI y + (20 : Int32) < nI (y + 21) := by
      rw [show (20 : Int32) = nI 20 from rfl, nI_add]; exact nI_lt (by omega) (by omega)
    rw [ri4 h ha, gd_true, rcl h ha, et, if_pos q]
  | succ d ih =>
    intro i fuel hi hf
    obtain ⟨k, rfl⟩ : ∃ k, fuel = k + 1 := ⟨fuel - 1, by omega⟩
    have e := ih (i + 1) k (by omega) (by omega)
    rw [← Nat.add_assoc, nI_succ] at e
    show D_X7_spread_19b _ _ _ _ _ = _
    unfold D_X7_spread_19b D_X7_spread_47
    have q : ¬ nI y + (20 : Int32) < nI (y + i) := by
      rw [show (20 : Int32) = nI 20 from rfl, nI_add]; exact nI_nlt (by omega) (by omega)
    rw [ri4 h ha, gd_true, rcl h ha, et, if_neg q, way_m h ha (show y + i ≤ 199 by omega), Option.bind_some]
    have key : (GM σ a 32).testBit i = true ↔ ¬ WY (PW σ a (nI (y + i))) pcN 32 = none := by
      rw [GM_bit, WY_none]
      constructor
      · rintro ⟨m, h1, h2, h3⟩ hall
        obtain ⟨-, -, y', hy', ey', em⟩ := gs_eq h ha m
        have : y' = y := (nI_eq (by omega) (by omega)).mp (ey'.symm.trans ey)
        subst this
        rw [h3] at em
        have hf := hall m h1
        simp [PW, h2, em] at hf
      · intro hne
        apply Classical.byContradiction
        intro hno
        apply hne
        intro m hm
        cases hp : PW σ a (nI (y + i)) m
        · rfl
        · exfalso
          apply hno
          simp only [PW, Bool.and_eq_true, decide_eq_true_eq] at hp
          obtain ⟨g1, -, y', hy', ey', em⟩ := gs_eq h ha m
          have : y' = y := (nI_eq (by omega) (by omega)).mp (ey'.symm.trans ey)
          subst this
          have := (nI_eq (by omega) (by omega)).mp (em.symm.trans hp.2)
          exact ⟨m, hm, hp.1, by omega⟩
    have ec : cw σ a (i + 1) = cw σ a i + (if (GM σ a 32).testBit i then 1 else 0) := rfl
    cases hw : WY (PW σ a (nI (y + i))) pcN 32 with
    | none =>
      have hb : (GM σ a 32).testBit i = false := by
        cases hb : (GM σ a 32).testBit i
        · rfl
        · exact absurd hw (key.mp hb)
      rw [ec, hb] at e
      rw [if_pos (show enc none < 0 by decide), Int32.add_zero]
      exact e
    | some m =>
      have hm := (WY_lt hw).1
      have hb : (GM σ a 32).testBit i = true := key.mpr (by rw [hw]; intro q; cases q)
      rw [ec, hb] at e
      have q : ¬ enc (some m) < 0 := nI_pos (show m < 2 ^ 31 by omega)
      rw [if_neg q, ← nI_succ]
      exact e
theorem pf_spread (h : Rel σ τ) (x : Int32) : E1 (D_X6_spread σ x) (D_X7_spread τ x) := by
  rcases ridc h x with hn | ⟨a, ha, rfl⟩
  · exact ⟨-1, by simp [D_X6_spread, hasR_n h hn], by simp [D_X7_spread, noR_n h hn, i10]⟩
  · obtain ⟨w, hw, ew⟩ := OW_eq h ha
    obtain ⟨-, -, -, t4, -, -, -, ⟨y, hy, ey⟩, -⟩ := h.rdr a ha
    have c := sp_c h ha hw ew (w + 1) 0 FU (by omega) (FU_lt (by omega))
    have m := sp_m h ha hy ey 21 0 FU rfl (FU_lt (by decide))
    have st := GM_stop h ha hw ew (31 - w) (by omega)
    rw [show w + 1 + (31 - w) = 32 by omega] at st
    rw [← st] at c
    have lt := GM_lt h ha 32
    have c24 : ct (GM σ a 32) 24 = ct (GM σ a 32) 21 := by
      have e := ct_add (GM σ a 32) 21 3
      rw [Nat.div_eq_of_lt lt] at e
      exact e.trans (by simp [ct])
    refine ⟨nI (ct (GM σ a 32) 24), ?_, ?_⟩
    · unfold D_X6_spread
      rw [hasR_y h ha, Option.bind_some, if_neg i10, ri4 h ha, gd_true, rcl h ha]
      refine c.trans ?_
      unfold D_X6_spread_76
      rw [bc24 σ (by omega)]; rfl
    · unfold D_X7_spread
      rw [noR_y h ha, Option.bind_some, if_pos rfl, ri4 h ha, gd_true, rcl h ha, t4, ey, c24, ← cw_ct]
      exact m
end PB
