theorem m10 (v w : Nat) : (10 : Int32) * nI v + nI w = nI (10 * v + w) := by
  rw [show (10 : Int32) = nI 10 from rfl, pk_mul, nI_add]
section PS
variable {σ τ : St}
theorem FIG {C : Nat → Option Int32} {st : St} {B n x lo hi : Nat} {T : Nat → Int32} (t : TM st B n T) (e : st 0 10 = nI x) (hl : lo ≤ 100) (hh : hi ≤ 100) (hx : x ≤ n) (hy : x < n → DG (T x) lo hi = true → C x = C (x + 1)) (hno : (x < n → DG (T x) lo hi = false) → C x = some (nI x)) : ∃ v' st', D_X7_figure st (nI B) (nI n) (nI lo) (nI hi) = some (v', st') ∧ Fr st st' ∧ ((∃ v, lo ≤ v ∧ v ≤ hi ∧ v' = nI v ∧ x < n ∧ T x = nI (48 + v) ∧ st' 0 10 = nI (x + 1) ∧ C x = C (x + 1)) ∨ (v' = -9 ∧ Bad C n st' x)) := by
  by_cases h : x < n
  · cases g : DG (T x) lo hi
    · exact ⟨_, _, fig_n t e hl hh hx (fun _ => g), Fr.up st _, Or.inr ⟨rfl, x, hx, up2_s, hno fun _ => g⟩⟩
    · obtain ⟨v, v1, v2, v3⟩ := DG_nat hh g
      exact ⟨_, _, fig_y t e hl hh h g, Fr.up st _, Or.inl ⟨v, v1, v2, by rw [v3, s48], h, v3, up2_s, hy h g⟩⟩
  · exact ⟨_, _, fig_n t e hl hh hx (fun q => absurd q h), Fr.up st _, Or.inr ⟨rfl, x, hx, up2_s, hno fun q => absurd q h⟩⟩
theorem nn9 : ¬ (0 : Int32) ≤ -9 := by decide
theorem TWO {C : Nat → Option Int32} {st : St} {B n x hi : Nat} {T : Nat → Int32} (t : TM st B n T) (e : st 0 10 = nI x) (hh : hi ≤ 9) (hx : x ≤ n) (hy : x < n → DG (T x) 0 hi = true → C x = C (x + 1)) (hno : (x < n → DG (T x) 0 hi = false) → C x = some (nI x)) (hy2 : x + 1 < n → DG (T (x + 1)) 0 9 = true → C (x + 1) = C (x + 1 + 1)) (hno2 : x + 1 ≤ n → (x + 1 < n → DG (T (x + 1)) 0 9 = false) → C (x + 1) = some (nI (x + 1))) : ∃ v' st', D_X7_twoFigures st (nI B) (nI n) (nI hi) = some (v', st') ∧ Fr st st' ∧ ((∃ v w, v ≤ hi ∧ w ≤ 9 ∧ v' = nI (10 * v + w) ∧ x + 1 < n ∧ T x = nI (48 + v) ∧ T (x + 1) = nI (48 + w) ∧ st' 0 10 = nI (x + 2) ∧ C x = C (x + 2)) ∨ (v' = -9 ∧ Bad C n st' x)) := by
  obtain ⟨u, s1, f1, f2, h1⟩ := FIG t e (lo := 0) (by decide) (by omega) hx hy hno
  unfold D_X7_twoFigures
  rw [show D_X7_figure st (nI B) (nI n) 0 (nI hi) = _ from f1, Option.bind_some]
  rcases h1 with ⟨v, v1, v2, v3, v4, v5, v6, v7⟩ | ⟨v1, y, v2, v3, v4⟩
  · obtain ⟨u2, s2, g1, g2, h2⟩ := FIG (C := C) (t.fr f2) v6 (lo := 0) (hi := 9) (by decide) (by decide) (by omega) hy2 (hno2 (by omega))
    simp only []
    rw [v3, if_pos (nI_pos' (by omega)), show D_X7_figure s1 (nI B) (nI n) 0 9 = _ from g1, Option.bind_some]
    unfold D_X7_twoFigures_29
    rcases h2 with ⟨w, w1, w2, w3, w4, w5, w6, w7⟩ | ⟨w1, y, w2, w3, w4⟩
    · refine ⟨nI (10 * v + w), s2, ?_, f2.tr g2, Or.inl ⟨v, w, v2, w2, rfl, w4, v5, w5, w6, v7.trans w7⟩⟩
      simp only []
      rw [w3, if_pos (nI_pos' (by omega)), m10]
    · refine ⟨-9, s2, ?_, f2.tr g2, Or.inr ⟨rfl, y, w2, w3, v7.trans w4⟩⟩
      simp only []
      rw [w1, if_neg nn9]
  · refine ⟨-9, s1, ?_, f2, Or.inr ⟨rfl, y, v2, v3, v4⟩⟩
    simp only []
    rw [v1, if_neg nn9]
    unfold D_X7_twoFigures_29
    rw [if_neg nn9]
/-- the class at a rider's cell -/
theorem CFr {ρ : St} {k a n S m r x : Nat} {T : Nat → Int32} {b : Prop} [Decidable b] (t : TA ρ k a n T) (h1 : 1 ≤ S) (h5 : S ≤ 5) (hm : m < 32) (hr : m % 8 = r) (ex : x = 3 + S + m) (hz : x = n → m = 0 ∨ r ≠ 0) (hx : x ≤ n) (hg : x < n → D_X3_riderGoesOn ρ (14 + k) (nI (a + x)) (nI r) (nI S) = some (if b then 1 else 0)) : (x < n → b → CF ρ k a n S x = CF ρ k a n S (x + 1)) ∧ ((x < n → ¬ b) → CF ρ k a n S x = some (nI x)) := by
  have hn := t.le
  subst ex
  constructor
  · intro h hb
    refine CF_t h (by omega) ?_
    rw [goR t h1 h5 hm hr h, hg h, if_pos hb]; rfl
  · intro h
    by_cases hx2 : 3 + S + m < n
    · refine CF_f hx2 (by omega) ?_
      rw [goR t h1 h5 hm hr hx2, hg hx2, if_neg (h hx2)]; rfl
    · have e : n = 3 + S + m := by omega
      have hz := hz e.symm
      have : ¬ (0 < S ∧ 3 + S < n ∧ (n - 3 - S) % 8 = 0) := by
        rw [show n - 3 - S = m by omega, hr]
        omega
      rw [show CF ρ k a n S (3 + S + m) = CF ρ k a n S n by rw [← e], CF_e (by omega) h5, if_neg this, ← e]
def kd (c : Int32) : Int32 := if c = 114 then 0 else if c = 108 then 1 else 2
def RG (T : Nat → Int32) (S X : Nat) : Prop := (T (X + 1) = 114 ∨ T (X + 1) = 108 ∨ T (X + 1) = 101) ∧ ∃ o f a1 a2 w1 w2 : Nat, T (X + 2) = nI (48 + o) ∧ T (X + 3) = nI (48 + f) ∧ T (X + 4) = nI (48 + a1) ∧ T (X + 5) = nI (48 + a2) ∧ T (X + 6) = nI (48 + w1) ∧ T (X + 7) = nI (48 + w2) ∧ o < f ∧ f ≤ S ∧ a1 ≤ 7 ∧ a2 ≤ 9 ∧ w1 ≤ 9 ∧ w2 ≤ 9
def tw (c d : Int32) : Int32 := 10 * (c - 48) + (d - 48)
def RV (st : St) (T : Nat → Int32) (X i : Nat) : Prop := st 8 i = kd (T (X + 1)) ∧ st 9 i = T (X + 2) - 48 ∧ st 10 i = T (X + 3) - 48 ∧ st 11 i = tw (T (X + 4)) (T (X + 5)) ∧ st 12 i = tw (T (X + 6)) (T (X + 7))
theorem tw_n {c d : Int32} {v w : Nat} (e1 : c = nI (48 + v)) (e2 : d = nI (48 + w)) : tw c d = nI (10 * v + w) := by
  unfold tw
  rw [e1, e2, s48, s48, m10]
theorem r185 {st : St} {i : Nat} (e : st 0 13 = nI i) (hi : i < 4) (v4 v5 v6 v7 t0 : Int32) : D_X7_readsRider_185 st v4 v5 v6 v7 t0 (st 0 13) = some (1, up2 (up2 (up2 (up2 (up2 (up2 st 8 i t0) 9 i v4) 10 i v5) 11 i v6) 12 i v7) 0 13 (nI (i + 1))) := by
  have c8 : ∀ {s : St} {j : Nat} {v : Int32}, up2 s 8 j v 0 13 = s 0 13 := up2_c (by decide)
  have c9 : ∀ {s : St} {j : Nat} {v : Int32}, up2 s 9 j v 0 13 = s 0 13 := up2_c (by decide)
  have c10 : ∀ {s : St} {j : Nat} {v : Int32}, up2 s 10 j v 0 13 = s 0 13 := up2_c (by decide)
  have c11 : ∀ {s : St} {j : Nat} {v : Int32}, up2 s 11 j v 0 13 = s 0 13 := up2_c (by decide)
  have c12 : ∀ {s : St} {j : Nat} {v : Int32}, up2 s 12 j v 0 13 = s 0 13 := up2_c (by decide)
  unfold D_X7_readsRider_185
  simp only [c8, c9, c10, c11, c12, e, inb_nI hi (show 4 < 2 ^ 31 by decide), gd_true, nI_clamp (show i < 2 ^ 31 by omega), nI_succ]
def Fr2 (i : Nat) (st st' : St) : Prop := (∀ c, c ≠ 0 → ¬ (8 ≤ c ∧ c ≤ 12) → st' c = st c) ∧ (∀ j, j ≠ 10 → j ≠ 13 → st' 0 j = st 0 j) ∧ ∀ c j, c ≠ 0 → j ≠ i → st' c j = st c j
theorem Fr.two {st st' : St} (f : Fr st st') (i : Nat) : Fr2 i st st' := ⟨fun c h _ => f.1 c h, fun j h _ => f.2 j h, fun c j h _ => by rw [f.1 c h]⟩
theorem Fr2.tr {i : Nat} {a b c : St} (h : Fr2 i a b) (g : Fr2 i b c) : Fr2 i a c := ⟨fun x h1 h2 => (g.1 x h1 h2).trans (h.1 x h1 h2), fun x h1 h2 => (g.2.1 x h1 h2).trans (h.2.1 x h1 h2), fun x y h1 h2 => (g.2.2 x y h1 h2).trans (h.2.2 x y h1 h2)⟩
theorem Fr2.up {i c : Nat} {st : St} {v : Int32} (h : 8 ≤ c) (h2 : c ≤ 12) : Fr2 i st (up2 st c i v) := ⟨fun x _ g => up2_ne x (by omega), fun j _ _ => up2_c (by omega), fun x j _ hj => by
  by_cases e : x = c
  · rw [e, up2_j hj]
  · rw [up2_c e]⟩
theorem Fr2.u13 {i : Nat} {st : St} {v : Int32} : Fr2 i st (up2 st 0 13 v) := ⟨fun x h _ => up2_ne x h, fun j _ h => up2_j h, fun x j h _ => up2_c h⟩
theorem n147 (st : St) (v3 v4 v5 v6 : Int32) : D_X7_readsRider_147 st v3 v4 v5 v6 (-9) = some (0, st) := by
  unfold D_X7_readsRider_147
  rw [if_neg nn9]
theorem n127 (st : St) (v1 v2 v3 v4 v5 : Int32) : D_X7_readsRider_127 st v1 v2 v3 v4 v5 (-9) = some (0, st) := by
  unfold D_X7_readsRider_127
  rw [if_neg nn9, n147]
theorem n107 (st : St) (v1 v2 v3 v4 : Int32) : D_X7_readsRider_107 st v1 v2 v3 v4 (-9) = some (0, st) := by
  unfold D_X7_readsRider_107
  rw [if_neg nn9, n127]
theorem y147 {st : St} (v3 v4 v5 v6 : Int32) {t0 : Int32} (h : 0 ≤ t0) : D_X7_readsRider_147 st v3 v4 v5 v6 t0 = D_X7_readsRider_185 st v4 v5 v6 t0 (kd v3) (st 0 13) := by
  unfold D_X7_readsRider_147 kd
  rw [if_pos h]
  by_cases c1 : v3 = 114
  · rw [if_pos c1, if_pos c1]
  · rw [if_neg c1, if_neg c1]
    by_cases c2 : v3 = 108
    · rw [if_pos c2, if_pos c2]
    · rw [if_neg c2, if_neg c2]
theorem bno {C : Nat → Option Int32} {x n : Nat} {c : Int32} {lo hi : Nat} (h : (x < n → ¬ DG c lo hi = true) → C x = some (nI x)) : (x < n → DG c lo hi = false) → C x = some (nI x) := fun q => h fun hx => by rw [q hx]; exact Bool.false_ne_true
theorem R58 {ρ : St} {k a n S i : Nat} {T : Nat → Int32} (t : TA ρ k a n T) {st : St} {B : Nat} (tm : TM st B n T) (h1 : 1 ≤ S) (h5 : S ≤ 5) (hi4 : i < 4) {X : Nat} (eX : X = 3 + S + 8 * i) (e10 : st 0 10 = nI (X + 1)) (e12 : st 0 12 = nI S) (e13 : st 0 13 = nI i) (hx : X + 1 < n) (hk : T (X + 1) = 114 ∨ T (X + 1) = 108 ∨ T (X + 1) = 101) : ∃ ok st', D_X7_readsRider_58 st (nI B) (nI n) (T (X + 1)) = some (ok, st') ∧ Fr2 i st st' ∧ ((ok = 0 ∧ Bad (CF ρ k a n S) n st' (X + 2)) ∨ (ok = 1 ∧ X + 8 ≤ n ∧ st' 0 10 = nI (X + 8) ∧ st' 0 13 = nI (i + 1) ∧ CF ρ k a n S (X + 2) = CF ρ k a n S (X + 8) ∧ RG T S X ∧ RV st' T X i)) := by
  have hn := t.le
  have eS : nI S - 1 = nI (S - 1) := by
    obtain ⟨s, rfl⟩ : ∃ s, S = s + 1 := ⟨S - 1, by omega⟩
    rw [nI_succ, Int32.add_sub_cancel, Nat.add_sub_cancel]
  unfold D_X7_readsRider_58
  rw [e10, ← nI_succ, up2_j (show 12 ≠ 10 by decide), e12, eS]
  have f0 := Fr.up st (nI (X + 1 + 1))
  have c2 := CFr (b := DG (T (X + 2)) 0 (S - 1) = true) t h1 h5 (m := 8 * i + 2) (r := 2) (x := X + 2) (by omega) (by omega) (by omega) (fun _ => Or.inr (by decide)) (by omega) (fun h => rg2 t h h1 h5)
  obtain ⟨v', s1, r1, f1, g1⟩ := FIG (C := CF ρ k a n S) (x := X + 2) (lo := 0) (hi := S - 1) (tm.fr f0) up2_s (by omega) (by omega) (by omega) c2.1 (bno c2.2)
  rw [show D_X7_figure (up2 st 0 10 (nI (X + 1 + 1))) (nI B) (nI n) 0 (nI (S - 1)) = _ from r1, Option.bind_some]
  have F1 := f0.tr f1
  rcases g1 with ⟨o, o1, o2, o3, o4, o5, o6, o7⟩ | ⟨o1, o2⟩
  rotate_left
  · subst o1
    refine ⟨0, s1, ?_, F1.two i, Or.inl ⟨rfl, o2⟩⟩
    show (if (0 : Int32) ≤ -9 then _ else _) = _
    rw [if_neg nn9, n107]
  subst o3
  have c3 := CFr (b := DG (T (X + 2 + 1)) (o + 1) S = true) t h1 h5 (m := 8 * i + 3) (r := 3) (x := X + 2 + 1) (by omega) (by omega) (by omega) (fun _ => Or.inr (by decide)) (by omega) (fun h => rg3 t h h5 (by omega) o5)
  obtain ⟨v', s2, r2, f2, g2⟩ := FIG (C := CF ρ k a n S) (x := X + 2 + 1) (lo := o + 1) (hi := S) (tm.fr F1) o6 (by omega) (by omega) (by omega) c3.1 (bno c3.2)
  have e12' : s1 0 12 = nI S := by rw [F1.2 12 (by decide)]; exact e12
  have base : (if (0 : Int32) ≤ (nI o, s1).1 then (D_X7_figure (nI o, s1).2 (nI B) (nI n) ((nI o, s1).1 + 1) ((nI o, s1).2 0 12)).bind fun y63 => D_X7_readsRider_107 y63.2 (nI B) (nI n) (T (X + 1)) (nI o, s1).1 y63.1 else D_X7_readsRider_107 (nI o, s1).2 (nI B) (nI n) (T (X + 1)) (nI o, s1).1 (-9)) = D_X7_readsRider_107 s2 (nI B) (nI n) (T (X + 1)) (nI o) v' := by
    show (if (0 : Int32) ≤ nI o then (D_X7_figure s1 (nI B) (nI n) (nI o + 1) (s1 0 12)).bind fun y63 => D_X7_readsRider_107 y63.2 (nI B) (nI n) (T (X + 1)) (nI o) y63.1 else _) = _
    rw [if_pos (nI_pos' (by omega)), e12', ← nI_succ, r2, Option.bind_some]
  rw [base]
  have F2 := F1.tr f2
  rcases g2 with ⟨f, p1, p2, p3, p4, p5, p6, p7⟩ | ⟨p1, y, p2, p3, p4⟩
  rotate_left
  · subst p1
    exact ⟨0, s2, n107 _ _ _ _ _, F2.two i, Or.inl ⟨rfl, y, p2, p3, o7.trans p4⟩⟩
  subst p3
  have c4 := CFr (b := DG (T (X + 4)) 0 7 = true) t h1 h5 (m := 8 * i + 4) (r := 4) (x := X + 4) (by omega) (by omega) (by omega) (fun _ => Or.inr (by decide)) (by omega) (fun h => rg4 t h)
  have c5 := fun hh => CFr (b := DG (T (X + 4 + 1)) 0 9 = true) t h1 h5 (m := 8 * i + 5) (r := 5) (x := X + 4 + 1) (by omega) (by omega) (by omega) (fun _ => Or.inr (by decide)) hh (fun h => rg5 t h (by decide) (by decide))
  obtain ⟨v', s3, r3, f3, g3⟩ := TWO (C := CF ρ k a n S) (x := X + 4) (hi := 7) (tm.fr F2) p6 (by decide) (by omega) c4.1 (bno c4.2) (fun h => (c5 (by omega)).1 h) (fun h => bno (c5 h).2)
  unfold D_X7_readsRider_107
  rw [if_pos (nI_pos' (by omega)), show D_X7_twoFigures s2 (nI B) (nI n) 7 = _ from r3, Option.bind_some]
  have F3 := F2.tr f3
  rcases g3 with ⟨a1, a2, q1, q2, q3, q4, q5, q6, q7, q8⟩ | ⟨q1, y, q2, q3, q4⟩
  rotate_left
  · subst q1
    exact ⟨0, s3, n127 _ _ _ _ _ _, F3.two i, Or.inl ⟨rfl, y, q2, q3, (o7.trans p7).trans q4⟩⟩
  subst q3
  have c6 := CFr (b := DG (T (X + 6)) 0 9 = true) t h1 h5 (m := 8 * i + 6) (r := 6) (x := X + 6) (by omega) (by omega) (by omega) (fun _ => Or.inr (by decide)) (by omega) (fun h => rg5 t h (by decide) (by decide))
  have c7 := fun hh => CFr (b := DG (T (X + 6 + 1)) 0 9 = true) t h1 h5 (m := 8 * i + 7) (r := 7) (x := X + 6 + 1) (by omega) (by omega) (by omega) (fun _ => Or.inr (by decide)) hh (fun h => rg5 t h (by decide) (by decide))
  obtain ⟨v', s4, r4, f4, g4⟩ := TWO (C := CF ρ k a n S) (x := X + 6) (hi := 9) (tm.fr F3) q7 (by decide) (by omega) c6.1 (bno c6.2) (fun h => (c7 (by omega)).1 h) (fun h => bno (c7 h).2)
  show ∃ ok st', D_X7_readsRider_127 s3 (nI B) (nI n) (T (X + 1)) (nI o) (nI f) (nI (10 * a1 + a2)) = some (ok, st') ∧ _
  unfold D_X7_readsRider_127
  rw [if_pos (nI_pos' (by omega)), show D_X7_twoFigures s3 (nI B) (nI n) 9 = _ from r4, Option.bind_some]
  have F4 := F3.tr f4
  rcases g4 with ⟨w1, w2, u1, u2, u3, u4, u5, u6, u7, u8⟩ | ⟨q1, y, u2, u3, u4⟩
  rotate_left
  · subst q1
    exact ⟨0, s4, n147 _ _ _ _ _, F4.two i, Or.inl ⟨rfl, y, u2, u3, ((o7.trans p7).trans q8).trans u4⟩⟩
  subst u3
  have e13' : s4 0 13 = nI i := by rw [F4.2 13 (by decide)]; exact e13
  show ∃ ok st', D_X7_readsRider_147 s4 (T (X + 1)) (nI o) (nI f) (nI (10 * a1 + a2)) (nI (10 * w1 + w2)) = some (ok, st') ∧ _
  rw [y147 _ _ _ _ (nI_pos' (by omega)), r185 e13' hi4]
  refine ⟨1, _, rfl, ((((((F4.two i).tr (Fr2.up (by decide) (by decide))).tr (Fr2.up (by decide) (by decide))).tr (Fr2.up (by decide) (by decide))).tr (Fr2.up (by decide) (by decide))).tr (Fr2.up (by decide) (by decide))).tr Fr2.u13, Or.inr ⟨rfl, by omega, ?_, up2_s, ((o7.trans p7).trans q8).trans u8, ⟨hk, o, f, a1, a2, w1, w2, o5, p5, q5, q6, u5, u6, by omega, by omega, by omega, by omega, by omega, by omega⟩, ?_⟩⟩
  · rw [up2_j (by decide), up2_c (by decide), up2_c (by decide), up2_c (by decide), up2_c (by decide), up2_c (by decide)]
    exact u7
  · refine ⟨?_, ?_, ?_, ?_, ?_⟩
    · rw [up2_c (by decide), up2_c (by decide), up2_c (by decide), up2_c (by decide), up2_c (by decide), up2_s]
    · rw [up2_c (by decide), up2_c (by decide), up2_c (by decide), up2_c (by decide), up2_s, o5, s48]
    · rw [up2_c (by decide), up2_c (by decide), up2_c (by decide), up2_s, show T (X + 3) = _ from p5, s48]
    · rw [up2_c (by decide), up2_c (by decide), up2_s, tw_n q5 q6]
    · rw [up2_c (by decide), up2_s, tw_n u5 u6]
theorem RR {ρ : St} {k a n S i : Nat} {T : Nat → Int32} (t : TA ρ k a n T) {st : St} {B : Nat} (tm : TM st B n T) (h1 : 1 ≤ S) (h5 : S ≤ 5) (hi4 : i ≤ 4) {X : Nat} (eX : X = 3 + S + 8 * i) (e10 : st 0 10 = nI X) (e12 : st 0 12 = nI S) (e13 : st 0 13 = nI i) (hx : X ≤ n) (hi : i = 0 ∨ X < n) : ∃ ok st', D_X7_readsRider st (nI B) (nI n) = some (ok, st') ∧ Fr2 i st st' ∧ ((ok = 0 ∧ Bad (CF ρ k a n S) n st' X) ∨ (ok = 1 ∧ i < 4 ∧ X + 8 ≤ n ∧ st' 0 10 = nI (X + 8) ∧ st' 0 13 = nI (i + 1) ∧ CF ρ k a n S X = CF ρ k a n S (X + 8) ∧ RG T S X ∧ RV st' T X i)) := by
  have hn := t.le
  have F0 : Fr2 i st st := ⟨fun _ _ _ => rfl, fun _ _ _ => rfl, fun _ _ _ _ => rfl⟩
  unfold D_X7_readsRider
  rw [e13]
  by_cases i4 : i = 4
  · rw [if_pos (show nI i = 4 by rw [i4]; decide)]
    refine ⟨0, st, rfl, F0, Or.inl ⟨rfl, X, hx, e10, ?_⟩⟩
    have hX : X < n := by omega
    refine CF_f hX (by omega) ?_
    have := go4 t h1 h5 (m := 8 * i) (by omega) (by omega)
    rw [← eX] at this
    exact this
  have hi3 : i < 4 := by omega
  rw [if_neg (show ¬ nI i = 4 from fun q => i4 ((nI_eq (b := 4) (by omega) (by decide)).mp q))]
  have c0 := CFr (b := T X = 59) t h1 h5 (m := 8 * i) (r := 0) (x := X) (by omega) (by omega) (by omega) (fun _ => by omega) (by omega) (fun h => rg0 t h)
  by_cases hX : X < n
  rotate_left
  · rw [co_n tm e10 (by omega), Option.bind_some, if_neg (by decide)]
    exact ⟨0, st, rfl, F0, Or.inl ⟨rfl, X, hx, e10, c0.2 fun h => absurd h hX⟩⟩
  rw [co_y tm e10 hX, Option.bind_some]
  by_cases h59 : T X = 59
  rotate_left
  · rw [if_neg h59]
    exact ⟨0, st, rfl, F0, Or.inl ⟨rfl, X, hx, e10, c0.2 fun _ => h59⟩⟩
  have d0 := c0.1 hX h59
  rw [if_pos h59, e10, ← nI_succ]
  have f0 := Fr.up st (nI (X + 1))
  have c1 := CFr (b := T (X + 1) = 114 ∨ T (X + 1) = 108 ∨ T (X + 1) = 101) t h1 h5 (m := 8 * i + 1) (r := 1) (x := X + 1) (by omega) (by omega) (by omega) (fun _ => Or.inr (by decide)) (by omega) (fun h => rg1 t h)
  by_cases hX1 : X + 1 < n
  rotate_left
  · rw [co_n (tm.fr f0) up2_s (show X + 1 = n by omega), Option.bind_some, if_neg (by decide), if_neg (by decide), if_neg (by decide)]
    exact ⟨0, _, rfl, f0.two i, Or.inl ⟨rfl, X + 1, by omega, up2_s, d0.trans (c1.2 fun h => absurd h hX1)⟩⟩
  rw [co_y (tm.fr f0) up2_s hX1, Option.bind_some]
  by_cases hk : T (X + 1) = 114 ∨ T (X + 1) = 108 ∨ T (X + 1) = 101
  rotate_left
  · rw [if_neg (fun q => hk (Or.inl q)), if_neg (fun q => hk (Or.inr (Or.inl q))), if_neg (fun q => hk (Or.inr (Or.inr q)))]
    exact ⟨0, _, rfl, f0.two i, Or.inl ⟨rfl, X + 1, by omega, up2_s, d0.trans (c1.2 fun _ => hk)⟩⟩
  have d1 := d0.trans (c1.1 hX1 hk)
  obtain ⟨ok, st', r1, r2, r3⟩ := R58 t (tm.fr f0) h1 h5 hi3 eX up2_s ((f0.2 12 (by decide)).trans e12) ((f0.2 13 (by decide)).trans e13) hX1 hk
  refine ⟨ok, st', ?_, (f0.two i).tr r2, ?_⟩
  · rw [← r1]
    by_cases k1 : T (X + 1) = 114
    · rw [if_pos k1]
    · rw [if_neg k1]
      by_cases k2 : T (X + 1) = 108
      · rw [if_pos k2]
      · rw [if_neg k2, if_pos ((hk.resolve_left k1).resolve_left k2)]
  · rcases r3 with ⟨q1, y, q2, q3, q4⟩ | ⟨q1, q2, q3, q4, q5, q6⟩
    · exact Or.inl ⟨q1, y, q2, q3, d1.trans q4⟩
    · exact Or.inr ⟨q1, hi3, q2, q3, q4, d1.trans q5, q6⟩
end PS
