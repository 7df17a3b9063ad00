section PT
variable {σ τ : St}
def Fr7 (st st' : St) : Prop := (∀ c, c ≠ 0 → c ≠ 7 → st' c = st c) ∧ ∀ j, j ≠ 10 → j ≠ 12 → st' 0 j = st 0 j
theorem rs63 {st : St} {S : Nat} (hS : S ≤ 5) (e : st 0 12 = nI S) : D_X7_readsSections_63 st = some (if S = 0 then 0 else 1, st) := by
  unfold D_X7_readsSections_63
  rw [e]
  by_cases h : S = 0
  · subst h; rfl
  · rw [if_neg (show ¬ nI S ≤ 0 from nI_ge (a := 0) (b := S) (by omega) (by omega)), if_neg h]
theorem RS_loop {B n S : Nat} {T : Nat → Int32} (hS : S ≤ 5) (hd : ∀ i, i < S → 3 + i < n ∧ DG (T (3 + i)) 0 3 = true) (hstop : S = 5 ∨ n ≤ 3 + S ∨ DG (T (3 + S)) 0 3 = false) (hn3 : 3 ≤ n) : ∀ d j fuel (st : St), j + d = S → d + 1 < fuel → TM st B n T → st 0 10 = nI (3 + j) → st 0 12 = nI j → (∀ s, s < j → st 7 s = T (3 + s) - 48) → ∃ st', D_X7_readsSections_2 (nI B) (nI n) fuel st 1 = some (if S = 0 then 0 else 1, st') ∧ Fr7 st st' ∧ st' 0 10 = nI (3 + S) ∧ st' 0 12 = nI S ∧ ∀ s, s < S → st' 7 s = T (3 + s) - 48 := by
  have hSn : 3 + S ≤ n := by
    by_cases h : S = 0
    · omega
    · have := (hd (S - 1) (by omega)).1
      omega
  intro d
  induction d with
  | zero =>
    intro j fuel st hj hf tm e10 e12 h7
    obtain ⟨f, rfl⟩ : ∃ f, fuel = f + 1 + 1 := ⟨fuel - 2, by omega⟩
    have : j = S := by omega
    subst this
    by_cases h5 : j = 5
    · refine ⟨st, ?_, ⟨fun _ _ _ => rfl, fun _ _ _ => rfl⟩, e10, e12, h7⟩
      show D_X7_readsSections_2b _ _ _ _ _ = _
      unfold D_X7_readsSections_2b
      rw [if_pos (show (5 : Int32) ≤ st 0 12 by rw [e12, h5]; decide), rs63 hS e12]
    · have hx : n ≤ 3 + j ∨ DG (T (3 + j)) 0 3 = false := hstop.resolve_left h5
      have q5 : ¬ (5 : Int32) ≤ nI j := nI_ge (b := 5) (by omega) (by decide)
      have fn := fig_n tm e10 (lo := 0) (hi := 3) (by decide) (by decide) hSn (fun q => hx.resolve_left (by omega))
      refine ⟨up2 st 0 10 (nI (3 + j)), ?_, ⟨fun c h _ => up2_ne c h, fun i h _ => up2_j h⟩, up2_s, by rw [up2_j (by decide)]; exact e12, by rw [up2_ne 7 (by decide)]; exact h7⟩
      show D_X7_readsSections_2b _ _ _ _ _ = _
      unfold D_X7_readsSections_2b
      rw [e12, if_neg q5, if_neg i10, show D_X7_figure st (nI B) (nI n) 0 3 = _ from fn, Option.bind_some, if_pos (show ((-9 : Int32), up2 st 0 10 (nI (3 + j))).1 < 0 from (by decide : (-9 : Int32) < 0))]
      unfold D_X7_readsSections_34
      rw [if_pos rfl]
      unfold D_X7_readsSections_60
      show D_X7_readsSections_2b _ _ _ _ _ = _
      unfold D_X7_readsSections_2b
      have e12' : up2 st 0 10 (nI (3 + j)) 0 12 = nI j := by rw [up2_j (by decide)]; exact e12
      show (if (5 : Int32) ≤ up2 st 0 10 (nI (3 + j)) 0 12 then D_X7_readsSections_63 (up2 st 0 10 (nI (3 + j))) else if (0 : Int32) = 0 then D_X7_readsSections_63 (up2 st 0 10 (nI (3 + j))) else _) = _
      rw [if_neg (by rw [e12']; exact q5), if_pos rfl, rs63 hS e12']
  | succ d ih =>
    intro j fuel st hj hf tm e10 e12 h7
    obtain ⟨f, rfl⟩ : ∃ f, fuel = f + 1 := ⟨fuel - 1, by omega⟩
    obtain ⟨d1, d2⟩ := hd j (by omega)
    obtain ⟨v, -, v1, v2⟩ := DG_nat (by decide) d2
    have q5 : ¬ (5 : Int32) ≤ nI j := nI_ge (b := 5) (by omega) (by decide)
    have fy := fig_y tm e10 (lo := 0) (hi := 3) (by decide) (by decide) d1 d2
    rw [v2, s48] at fy
    have f0 := Fr.up st (nI (3 + j + 1))
    have e12' : up2 st 0 10 (nI (3 + j + 1)) 0 12 = nI j := by rw [up2_j (by decide)]; exact e12
    obtain ⟨st', r1, r2, r3, r4, r5⟩ := ih (j + 1) f (up2 (up2 (up2 st 0 10 (nI (3 + j + 1))) 7 j (nI v)) 0 12 (nI (j + 1))) (by omega) (by omega) (by
        obtain ⟨t1, t2, t3⟩ := tm
        exact ⟨t1, t2, by rw [up2_ne 20 (by decide), up2_ne 20 (by decide), up2_ne 20 (by decide)]; exact t3⟩) (by rw [up2_j (by decide), up2_c (by decide), up2_s]; rfl) up2_s (fun s hs => by
        rw [up2_c (by decide)]
        by_cases e : s = j
        · rw [e, up2_s, v2, s48]
        · rw [up2_j e, up2_c (by decide)]; exact h7 s (by omega))
    refine ⟨st', ?_, ⟨fun c h h' => (r2.1 c h h').trans (by rw [up2_ne c h, up2_ne c h', up2_ne c h]), fun i h h' => (r2.2 i h h').trans (by rw [up2_j h', up2_c (by decide), up2_j h])⟩, r3, r4, r5⟩
    show D_X7_readsSections_2b _ _ _ _ _ = _
    unfold D_X7_readsSections_2b
    rw [e12, if_neg q5, if_neg i10, show D_X7_figure st (nI B) (nI n) 0 3 = _ from fy, Option.bind_some, if_neg (nI_pos (by omega))]
    unfold D_X7_readsSections_34
    show (if (1 : Int32) = 0 then _ else gd (inb (up2 st 0 10 (nI (3 + j + 1)) 0 12) 5) (D_X7_readsSections_60 (up2 (up2 (up2 st 0 10 (nI (3 + j + 1))) 7 (up2 st 0 10 (nI (3 + j + 1)) 0 12).toNatClampNeg (nI v)) 0 12 ((up2 (up2 st 0 10 (nI (3 + j + 1))) 7 (up2 st 0 10 (nI (3 + j + 1)) 0 12).toNatClampNeg (nI v)) 0 12 + 1)) _ _ _ _)) = _
    rw [if_neg i10, up2_c (show 0 ≠ 7 by decide), e12', inb_nI (show j < 5 by omega) (by decide), gd_true, nI_clamp (by omega), ← nI_succ]
    exact r1
def Fr8 (st st' : St) : Prop := (∀ c, c ≠ 0 → ¬ (8 ≤ c ∧ c ≤ 12) → st' c = st c) ∧ ∀ j, j ≠ 10 → j ≠ 13 → st' 0 j = st 0 j
theorem Fr2.e {i : Nat} {st st' : St} (f : Fr2 i st st') : Fr8 st st' := ⟨f.1, f.2.1⟩
theorem Fr8.tr {a b c : St} (h : Fr8 a b) (g : Fr8 b c) : Fr8 a c := ⟨fun x h1 h2 => (g.1 x h1 h2).trans (h.1 x h1 h2), fun x h1 h2 => (g.2 x h1 h2).trans (h.2 x h1 h2)⟩
theorem z132 (B n : Int32) (f : Nat) (st : St) : D_X7_readsRide_132 B n (f + 1) st 0 = some (0, st) := by
  show D_X7_readsRide_132b _ _ _ _ _ = _
  unfold D_X7_readsRide_132b
  rw [if_pos rfl]; rfl
theorem RL_loop {ρ : St} {k a n S : Nat} {T : Nat → Int32} (t : TA ρ k a n T) {B : Nat} (h1 : 1 ≤ S) (h5 : S ≤ 5) : ∀ d i fuel (st : St) X, i + d = 5 → i ≤ 4 → d + 1 < fuel → X = 3 + S + 8 * i → TM st B n T → st 0 10 = nI X → st 0 12 = nI S → st 0 13 = nI i → X ≤ n → (∀ j, j < i → RG T S (3 + S + 8 * j) ∧ RV st T (3 + S + 8 * j) j) → ∃ ok st', D_X7_readsRide_132 (nI B) (nI n) fuel st 1 = some (ok, st') ∧ Fr8 st st' ∧ ((ok = 0 ∧ Bad (CF ρ k a n S) n st' X) ∨ (ok = 1 ∧ CF ρ k a n S X = some (-9) ∧ ∃ R, 1 ≤ R ∧ R ≤ 4 ∧ n = 3 + S + 8 * R ∧ st' 0 13 = nI R ∧ ∀ j, j < R → RG T S (3 + S + 8 * j) ∧ RV st' T (3 + S + 8 * j) j)) := by
  have hn := t.le
  intro d
  induction d with
  | zero => intro i fuel st X hi hi4; omega
  | succ d ih =>
    intro i fuel st X hi hi4 hf eX tm e10 e12 e13 hx hr
    obtain ⟨f, rfl⟩ : ∃ f, fuel = f + 1 + 1 := ⟨fuel - 2, by omega⟩
    by_cases hd : 1 ≤ i ∧ n = X
    · refine ⟨1, st, ?_, ⟨fun _ _ _ => rfl, fun _ _ _ => rfl⟩, Or.inr ⟨rfl, ?_, i, hd.1, hi4, by omega, e13, hr⟩⟩
      · show D_X7_readsRide_132b _ _ _ _ _ = _
        unfold D_X7_readsRide_132b
        rw [if_neg i10, e13, if_neg (fun q => by have := (nI_z (by omega)).mp q; omega), e10, if_pos (nI_le (by omega) (by omega))]; rfl
      · have : 0 < S ∧ 3 + S < n ∧ (n - 3 - S) % 8 = 0 := by
          refine ⟨by omega, by omega, ?_⟩
          rw [show n - 3 - S = 8 * i by omega]
          exact Nat.mul_mod_right 8 i
        rw [← hd.2, CF_e (by omega) h5, if_pos this]
    · have hi' : i = 0 ∨ X < n := by omega
      have base : D_X7_readsRide_132 (nI B) (nI n) (f + 1 + 1) st 1 = (D_X7_readsRider st (nI B) (nI n)).bind fun y => D_X7_readsRide_132 (nI B) (nI n) (f + 1) y.2 y.1 := by
        show D_X7_readsRide_132b _ _ _ _ _ = _
        unfold D_X7_readsRide_132b
        rw [if_neg i10, e13]
        by_cases h0 : i = 0
        · rw [if_pos (show nI i = 0 by rw [h0]; decide)]; rfl
        · rw [if_neg (fun q => h0 ((nI_z (by omega)).mp q)), e10, if_neg (nI_ge (by omega) (by omega))]; rfl
      obtain ⟨ok, s1, r1, r2, r3⟩ := RR t tm h1 h5 hi4 eX e10 e12 e13 hx hi'
      rw [base, r1, Option.bind_some]
      rcases r3 with ⟨q1, q2⟩ | ⟨q1, q2, q3, q4, q5, q6, q7, q8⟩
      · subst q1
        exact ⟨0, s1, z132 _ _ _ _, r2.e, Or.inl ⟨rfl, q2⟩⟩
      · subst q1
        obtain ⟨ok, s2, p1, p2, p3⟩ := ih (i + 1) (f + 1) s1 (X + 8) (by omega) (by omega) (by omega) (by omega) (by
            obtain ⟨t1, t2, t3⟩ := tm
            exact ⟨t1, t2, by rw [r2.1 20 (by decide) (by decide)]; exact t3⟩) q4 (by rw [r2.2.1 12 (by decide) (by decide)]; exact e12) q5 q3 (fun j hj => by
            by_cases e : j = i
            · rw [e, ← eX]; exact ⟨q7, q8⟩
            · obtain ⟨g1, g2⟩ := hr j (by omega)
              refine ⟨g1, ?_⟩
              unfold RV at g2 ⊢
              rw [r2.2.2 8 j (by decide) e, r2.2.2 9 j (by decide) e, r2.2.2 10 j (by decide) e, r2.2.2 11 j (by decide) e, r2.2.2 12 j (by decide) e]
              exact g2)
        refine ⟨ok, s2, p1, r2.e.tr p2, ?_⟩
        rcases p3 with ⟨w1, y, w2, w3, w4⟩ | ⟨w1, w2, w3⟩
        · exact Or.inl ⟨w1, y, w2, w3, q6.trans w4⟩
        · exact Or.inr ⟨w1, q6.trans w2, w3⟩
def Fr9 (st st' : St) : Prop := (∀ c, c ≠ 0 → ¬ (7 ≤ c ∧ c ≤ 12) → st' c = st c) ∧ ∀ j, ¬ (10 ≤ j ∧ j ≤ 13) → st' 0 j = st 0 j
theorem Fr9.tr {a b c : St} (h : Fr9 a b) (g : Fr9 b c) : Fr9 a c := ⟨fun x h1 h2 => (g.1 x h1 h2).trans (h.1 x h1 h2), fun x h1 => (g.2 x h1).trans (h.2 x h1)⟩
theorem Fr8.e {st st' : St} (f : Fr8 st st') : Fr9 st st' := ⟨fun c h1 h2 => f.1 c h1 (by omega), fun j h => f.2 j (by omega) (by omega)⟩
theorem Fr7.e {st st' : St} (f : Fr7 st st') : Fr9 st st' := ⟨fun c h1 h2 => f.1 c h1 (by omega), fun j h => f.2 j (by omega) (by omega)⟩
theorem Fr.e {st st' : St} (f : Fr st st') : Fr9 st st' := ⟨fun c h1 _ => f.1 c h1, fun j h => f.2 j (by omega)⟩
theorem Fr9.up {st : St} {j : Nat} {v : Int32} (h : 10 ≤ j) (h2 : j ≤ 13) : Fr9 st (up2 st 0 j v) := ⟨fun c h1 _ => up2_ne c h1, fun i hi => up2_j (by omega)⟩
theorem TM.f9 {st st' : St} {B n : Nat} {T : Nat → Int32} (t : TM st B n T) (f : Fr9 st st') : TM st' B n T := by
  obtain ⟨t1, t2, t3⟩ := t
  exact ⟨t1, t2, by rw [f.1 20 (by decide) (by decide)]; exact t3⟩
theorem f130 (st : St) (B n : Int32) : D_X7_readsRide_130 st B n = some (0, st) := z132 B n 1999 st
theorem f93 (st : St) (B n : Int32) : D_X7_readsRide_93 st B n = some (0, up2 st 0 10 (st 0 10)) := by
  unfold D_X7_readsRide_93 D_X7_readsRide_94 D_X7_readsRide_109
  rw [if_pos rfl, if_pos rfl, f130, Int32.add_zero]
theorem f68 (st : St) (B n : Int32) : D_X7_readsRide_68 st B n (-9) = some (0, up2 (up2 st 0 11 (-9)) 0 10 (st 0 10)) := by
  unfold D_X7_readsRide_68
  rw [up2_s, if_pos (by decide), f93, up2_j (show 10 ≠ 11 by decide)]
theorem f31 (st : St) (B n : Int32) : ∃ st', D_X7_readsRide_31 st B n 0 = some (0, st') ∧ Fr9 st st' ∧ st' 0 10 = st 0 10 := by
  refine ⟨_, ?_, (Fr9.up (j := 10) (v := st 0 10) (by decide) (by decide)).tr ((Fr9.up (j := 11) (v := -9) (by decide) (by decide)).tr (Fr9.up (j := 10) (v := st 0 10) (by decide) (by decide))), up2_s⟩
  unfold D_X7_readsRide_31 D_X7_readsRide_46
  rw [if_pos rfl, if_pos rfl, Int32.add_zero, f68, up2_s]
theorem CFl {ρ : St} {k a n S : Nat} (hn : n ≤ 60) (hS : S ≤ 5) (h : n ≤ 3 + S) : CF ρ k a n S n = some (nI n) := by
  rw [CF_e hn hS, if_neg (by omega)]
theorem CF3 {ρ : St} {k a n S : Nat} {T : Nat → Int32} (t : TA ρ k a n T) (hS : S ≤ 5) (hd : ∀ i, i < S → 3 + i < n) : ∀ j, j ≤ S → CF ρ k a n S 3 = CF ρ k a n S (3 + j) := by
  have hn := t.le
  intro j
  induction j with
  | zero => intro _; rfl
  | succ j ih =>
    intro hj
    have := hd j (by omega)
    exact (ih (by omega)).trans (CF_t this (by omega) (goS t (by omega) (by omega) hS this))
theorem RRide {ρ : St} {k a n S : Nat} {T : Nat → Int32} (t : TA ρ k a n T) {st : St} {B : Nat} (tm : TM st B n T) (hS : S ≤ 5) (hd : ∀ i, i < S → 3 + i < n ∧ DG (T (3 + i)) 0 3 = true) (hstop : S = 5 ∨ n ≤ 3 + S ∨ DG (T (3 + S)) 0 3 = false) : ∃ ok st', D_X7_readsRide st (nI B) (nI n) = some (ok, st') ∧ Fr9 st st' ∧ ((ok = 0 ∧ Bad (CF ρ k a n S) n st' 0) ∨ (ok = 1 ∧ CF ρ k a n S 0 = some (-9) ∧ 1 ≤ S ∧ DG (T 1) 0 3 = true ∧ st' 0 11 = T 1 - 48 ∧ st' 0 12 = nI S ∧ (∀ s, s < S → st' 7 s = T (3 + s) - 48) ∧ ∃ R, 1 ≤ R ∧ R ≤ 4 ∧ n = 3 + S + 8 * R ∧ st' 0 13 = nI R ∧ ∀ j, j < R → RG T S (3 + S + 8 * j) ∧ RV st' T (3 + S + 8 * j) j)) := by
  have hn := t.le
  unfold D_X7_readsRide
  generalize hs0 : up2 (up2 (up2 st 0 10 0) 0 12 0) 0 13 0 = s0
  have F0 : Fr9 st s0 := by rw [← hs0]; exact ((Fr9.up (by decide) (by decide)).tr (Fr9.up (by decide) (by decide))).tr (Fr9.up (by decide) (by decide))
  have e10 : s0 0 10 = nI 0 := by rw [← hs0, up2_j (by decide), up2_j (by decide), up2_s]; decide
  have e12 : s0 0 12 = nI 0 := by rw [← hs0, up2_j (by decide), up2_s]; decide
  have e13 : s0 0 13 = nI 0 := by rw [← hs0, up2_s]; decide
  have tm0 := tm.f9 F0
  by_cases h0 : 0 < n ∧ T 0 = 117
  rotate_left
  · have c0 : CF ρ k a n S 0 = some (nI 0) := by
      by_cases hp : 0 < n
      · refine CF_f hp (by omega) ?_
        rw [go0 t hp, if_neg (fun q => h0 ⟨hp, q⟩)]
      · have e : n = 0 := by omega
        subst e
        exact CFl (by omega) hS (by omega)
    obtain ⟨st', r1, r2, r3⟩ := f31 s0 (nI B) (nI n)
    refine ⟨0, st', ?_, F0.tr r2, Or.inl ⟨rfl, 0, by omega, r3.trans e10, c0⟩⟩
    by_cases hp : 0 < n
    · rw [co_y tm0 e10 hp, Option.bind_some, if_neg (fun q => h0 ⟨hp, q⟩), r1]
    · rw [co_n tm0 e10 (by omega), Option.bind_some, if_neg (by decide), r1]
  obtain ⟨hp, h117⟩ := h0
  have d0 : CF ρ k a n S 0 = CF ρ k a n S 1 := CF_t hp (by omega) (by rw [go0 t hp, if_pos h117])
  rw [co_y tm0 e10 hp, Option.bind_some, if_pos h117]
  unfold D_X7_readsRide_31
  rw [if_neg i10]
  unfold D_X7_readsRide_46
  rw [if_neg i10, e10, ← nI_succ]
  have F1 : Fr s0 (up2 s0 0 10 (nI (0 + 1))) := Fr.up _ _
  have c1 : (1 ≤ n) ∧ (1 < n → DG (T 1) 0 3 = true → CF ρ k a n S 1 = CF ρ k a n S (1 + 1)) ∧ ((1 < n → DG (T 1) 0 3 = false) → CF ρ k a n S 1 = some (nI 1)) := by
    refine ⟨hp, fun h g => CF_t h (by omega) (by rw [go1 t h, g]; rfl), fun g => ?_⟩
    by_cases h : 1 < n
    · exact CF_f h (by omega) (by rw [go1 t h, g h]; rfl)
    · have e : n = 1 := by omega
      subst e
      exact CFl (by omega) hS (by omega)
  obtain ⟨v', s1, r1, f1, g1⟩ := FIG (C := CF ρ k a n S) (x := 1) (lo := 0) (hi := 3) (tm0.fr F1) up2_s (by decide) (by decide) c1.1 c1.2.1 c1.2.2
  rw [show D_X7_figure (up2 s0 0 10 (nI (0 + 1))) (nI B) (nI n) 0 3 = _ from r1, Option.bind_some]
  have G1 := F0.tr (F1.tr f1).e
  show ∃ ok st', D_X7_readsRide_68 s1 (nI B) (nI n) v' = some (ok, st') ∧ _
  rcases g1 with ⟨v, -, v2, v3, v4, v5, v6, v7⟩ | ⟨v3, y, y1, y2, y3⟩
  rotate_left
  · subst v3
    refine ⟨0, _, f68 _ _ _, G1.tr ((Fr9.up (j := 11) (v := -9) (by decide) (by decide)).tr (Fr9.up (j := 10) (v := s1 0 10) (by decide) (by decide))), Or.inl ⟨rfl, y, y1, by rw [up2_s]; exact y2, d0.trans y3⟩⟩
  subst v3
  unfold D_X7_readsRide_68
  rw [up2_s, if_neg (nI_pos (by omega))]
  generalize hs2 : up2 s1 0 11 (nI v) = s2
  have G2 : Fr9 st s2 := by rw [← hs2]; exact G1.tr (Fr9.up (by decide) (by decide))
  have tm2 := tm.f9 G2
  have a10 : s2 0 10 = nI 2 := by rw [← hs2, up2_j (by decide)]; exact v6
  have a11 : s2 0 11 = nI v := by rw [← hs2, up2_s]
  have a12 : s2 0 12 = nI 0 := by rw [← hs2, up2_j (by decide), f1.2 12 (by decide), F1.2 12 (by decide)]; exact e12
  have a13 : s2 0 13 = nI 0 := by rw [← hs2, up2_j (by decide), f1.2 13 (by decide), F1.2 13 (by decide)]; exact e13
  have dg1 : DG (T 1) 0 3 = true := by
    cases g : DG (T 1) 0 3
    · have := fig_n (tm0.fr F1) (x := 1) (lo := 0) (hi := 3) up2_s (by decide) (by decide) c1.1 (fun _ => g)
      rw [r1] at this
      have e := congrArg (fun o => o.map Prod.fst) this
      simp only [Option.map_some, Option.some.injEq] at e
      exact absurd (show (0 : Int32) ≤ -9 by rw [← e]; exact nI_pos' (by omega)) nn9
    · rfl
  have d2 := d0.trans v7
  by_cases h2 : 2 < n ∧ T 2 = 44
  rotate_left
  · have c2 : CF ρ k a n S (1 + 1) = some (nI 2) := by
      by_cases hp2 : 2 < n
      · exact CF_f hp2 (by omega) (by rw [go2 t hp2, if_neg (fun q => h2 ⟨hp2, q⟩)])
      · have e : n = 2 := by omega
        subst e
        exact CFl (by omega) hS (by omega)
    refine ⟨0, up2 s2 0 10 (s2 0 10), ?_, G2.tr (Fr9.up (by decide) (by decide)), Or.inl ⟨rfl, 2, by omega, by rw [up2_s]; exact a10, d2.trans c2⟩⟩
    by_cases hp2 : 2 < n
    · rw [co_y tm2 a10 hp2, Option.bind_some, if_neg (fun q => h2 ⟨hp2, q⟩), f93]
    · rw [co_n tm2 a10 (by omega), Option.bind_some, if_neg (by decide), f93]
  obtain ⟨hp2, h44⟩ := h2
  have d3 : CF ρ k a n S 0 = CF ρ k a n S 3 := d2.trans (CF_t hp2 (by omega) (by rw [go2 t hp2, if_pos h44]))
  rw [co_y tm2 a10 hp2, Option.bind_some, if_pos h44]
  unfold D_X7_readsRide_94
  rw [if_neg i10]
  unfold D_X7_readsRide_109
  rw [if_neg i10, a10, ← nI_succ]
  have F3 : Fr s2 (up2 s2 0 10 (nI (2 + 1))) := Fr.up _ _
  obtain ⟨s3, q1, q2, q3, q4, q5⟩ := RS_loop hS hd hstop (by omega) S 0 FU (up2 s2 0 10 (nI (2 + 1))) (by omega) (FU_lt (by omega)) (tm2.fr F3) up2_s ((F3.2 12 (by decide)).trans a12) (fun s hs => absurd hs (Nat.not_lt_zero s))
  have G3 := (G2.tr F3.e).tr q2.e
  unfold D_X7_readsSections
  rw [q1, Option.bind_some]
  have d4 := d3.trans (CF3 t hS (fun i hi => (hd i hi).1) S (Nat.le_refl _))
  have b11 : s3 0 11 = T 1 - 48 := by
    rw [q2.2 11 (by decide) (by decide), F3.2 11 (by decide), a11, v5, s48]
  have b13 : s3 0 13 = nI 0 := by rw [q2.2 13 (by decide) (by decide), F3.2 13 (by decide)]; exact a13
  by_cases hz : S = 0
  · subst hz
    refine ⟨0, s3, ?_, G3, Or.inl ⟨rfl, 3, by omega, q3, d4.trans ?_⟩⟩
    · show (if (0 : Int32) = 0 then _ else _) = _
      rw [if_pos rfl, f130]
    · by_cases h3 : 3 < n
      · exact CF_f h3 (by omega) (goZ t h3)
      · have e : n = 3 := by omega
        subst e
        exact CFl (by omega) hS (by omega)
  · rw [if_neg hz]
    obtain ⟨ok, s4, p1, p2, p3⟩ := RL_loop t (B := B) (show 1 ≤ S by omega) hS 5 0 FU s3 (3 + S) rfl (by decide) (FU_lt (by decide)) (by omega) (tm.f9 G3) q3 q4 b13 (by have := (hd (S - 1) (by omega)).1; omega) (fun j hj => absurd hj (Nat.not_lt_zero j))
    refine ⟨ok, s4, ?_, G3.tr p2.e, ?_⟩
    · show (if (1 : Int32) = 0 then _ else D_X7_readsRide_131 s3 (nI B) (nI n) 1) = _
      rw [if_neg i10]
      exact p1
    · rcases p3 with ⟨w1, y, w2, w3, w4⟩ | ⟨w1, w2, w3⟩
      · exact Or.inl ⟨w1, y, w2, w3, d4.trans w4⟩
      · refine Or.inr ⟨w1, d4.trans w2, by omega, dg1, ?_, ?_, ?_, w3⟩
        · rw [p2.2 11 (by decide) (by decide)]; exact b11
        · rw [p2.2 12 (by decide) (by decide)]; exact q4
        · rw [p2.1 7 (by decide) (by decide)]; exact q5
end PT
