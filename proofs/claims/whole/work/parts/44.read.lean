theorem up2_self (σ : St) (c j : Nat) : up2 σ c j (σ c j) = σ := by
  funext a b
  rw [up2_at]
  split
  · rename_i h; rw [h.1, h.2]
  · rfl
def SLf (H : Nat → Bool) : Nat → Int32
  | 0 => 0
  | n + 1 => if H n then SLf H n ||| ((1 : Int32) <<< (nI n &&& 31)) else SLf H n
def BGr (H : Nat → Bool) : Nat → Int32 → Int32 → Int32 × Int32
  | 0, m, l => (m, l)
  | i + 1, m, l => if H i then BGr H i (m + 1) (nI i) else BGr H i m l
theorem SLf_s (H : Nat → Bool) (n : Nat) : SLf H (n + 1) = if H n then SLf H n ||| ((1 : Int32) <<< (nI n &&& 31)) else SLf H n := rfl
theorem BGr_s (H : Nat → Bool) (i : Nat) (m l : Int32) : BGr H (i + 1) m l = if H i then BGr H i (m + 1) (nI i) else BGr H i m l := rfl
theorem nI_sub1 (i : Nat) : nI i + (-1) = nI i - 1 := by rw [Int32.sub_eq_add_neg]
section P5
variable {σ τ : St}
theorem pf_reading (h : Rel σ τ) (x y z : Int32) : E2 (D_X6_reading σ x y z) (D_X7_reading τ x y z) := by
  rcases ridc h x with hn | ⟨a, ha, rfl⟩
  · exact ⟨-1, σ, τ, by simp [D_X6_reading, hasR_n h hn], by simp [D_X7_reading, noR_n h hn, i10], h⟩
  · cases hb : ow (OW σ a) y
    · exact ⟨-2, σ, τ, by simp [D_X6_reading, hasR_y h ha, i10, ri4 h ha, gd_true, rcl h ha, ons_eq, hb], by simp [D_X7_reading, noR_y h ha, nso_eq h ha, hb, i10], h⟩
    · rcases wic z 199 (by decide) with hn | ⟨v, hv, rfl⟩
      · have e1 : D_X6_within σ z 199 = some 0 := wi_n hn
        have e2 : D_X7_in τ z.toInt64 0 199 = some 0 := inj_n hn rfl
        exact ⟨-2, σ, τ, by simp [D_X6_reading, hasR_y h ha, i10, ri4 h ha, gd_true, rcl h ha, ons_eq, hb, e1], by simp [D_X7_reading, noR_y h ha, nso_eq h ha, hb, e2], h⟩
      · have e1 : D_X6_within σ (nI v) 199 = some 1 := wj_y (n := 199) hv (by decide)
        have e2 : D_X7_in τ (nI v).toInt64 0 199 = some 1 := inj_y hv (by decide) rfl
        have h8 := h.red8
        by_cases hf : nRed σ = 8
        · have q1 : ¬ nI (nRed σ) < 8 := by rw [hf]; decide
          have q2 : nI (nRed σ) = 8 := by rw [hf]; rfl
          exact ⟨-4, σ, τ, by simp [D_X6_reading, hasR_y h ha, i10, ri4 h ha, gd_true, rcl h ha, ons_eq, hb, e1, h.red, q1], by simp [D_X7_reading, noR_y h ha, nso_eq h ha, hb, e2, i10, h.mred, q2], h⟩
        · have q1 : nI (nRed σ) < 8 := nI_lt (show nRed σ < 8 by omega) (by decide)
          have q2 : ¬ nI (nRed σ) = 8 := fun e => hf ((nI_eq (b := 8) (by omega) (by decide)).mp e)
          have q3 : ¬ (8 : Int32) ≤ nI (nRed σ) := nI_ge (show nRed σ < 8 by omega) (by decide)
          have q4 : inb (nI (nRed σ)) 8 = true := inb_nI (by omega) (by decide)
          have q5 : (nI (nRed σ)).toNatClampNeg = nRed σ := nI_clamp (by omega)
          have q6 : nI (nRed σ) + 1 - 1 = nI (nRed σ) := by rw [← nI_succ, nI_pred]
          refine ⟨nI (nRed σ), up2 (up2 (up2 (up2 σ 10 (nRed σ) (nI a)) 11 (nRed σ) y) 12 (nRed σ) (nI v)) 9 3 (nI (nRed σ) + 1), up2 (up2 (up2 (up2 τ 15 (nRed σ) (nI a)) 16 (nRed σ) y) 17 (nRed σ) (nI v)) 0 22 (nI (nRed σ) + 1), ?_, ?_, ?_⟩
          · simp [D_X6_reading, hasR_y h ha, i10, ri4 h ha, gd_true, rcl h ha, ons_eq, hb, e1, h.red, q1, D_X1_append, q3, q4, q5, q6, up2_c, up2_s]
          · simp [D_X7_reading, noR_y h ha, nso_eq h ha, hb, e2, i10, h.mred, q2, q4, q5, q6, up2_c, up2_s, gd_true]
          · refine h.rds (fun k k1 k2 k3 k4 => ?_) (fun k k1 k2 k3 k4 => ?_) (fun j hj => ?_) (n := nRed σ + 1) (by omega) (by rw [up2_s, nI_succ]) (by rw [up2_s, nI_succ]) (fun i hi => ?_)
            · rw [up2_ne k k1, up2_ne k k4, up2_ne k k3, up2_ne k k2]
            · rw [up2_ne k k1, up2_ne k k4, up2_ne k k3, up2_ne k k2]
            · rw [up2_j hj, up2_c (by decide), up2_c (by decide), up2_c (by decide)]
            · have er : nRid (up2 (up2 (up2 (up2 σ 10 (nRed σ) (nI a)) 11 (nRed σ) y) 12 (nRed σ) (nI v)) 9 3 (nI (nRed σ) + 1)) = nRid σ := nRid_of (by rw [up2_c (by decide), up2_c (by decide), up2_c (by decide), up2_c (by decide)])
              unfold RelD
              rw [er]
              by_cases hin : i = nRed σ
              · subst hin
                simp only [up2_at]
                simp
                exact ⟨a, ha, rfl⟩
              · have := h.rea i (by omega)
                unfold RelD at this
                simp only [up2_at]
                simpa [hin] using this
/-- slopes: one section's slope put in its place -/
theorem sl_c (h : Rel σ τ) {s : Nat} (hs : s < nSec σ) (H : Nat → Bool) (hH : ∀ v, v ≤ 3 → allF (up2 σ 2 s (nI v)) (nRed (up2 σ 2 s (nI v))) = H v) (was : Int32) : ∀ d v fuel x, v + d = 4 → d < fuel → D_X6_slopes_28 (nI s) was fuel (up2 σ 2 s x) (SLf H v) (nI v) = some (SLf H 4, up2 σ 2 s was) := by
  intro d
  induction d with
  | zero =>
    intro v fuel x hv hf
    obtain ⟨k, rfl⟩ : ∃ k, fuel = k + 1 := ⟨fuel - 1, by omega⟩
    have : v = 4 := by omega
    subst this
    show D_X6_slopes_28b _ _ _ _ _ _ = _
    unfold D_X6_slopes_28b D_X6_slopes_72
    rw [if_pos (by decide), se5 h hs, gd_true, scl h hs, up2_2]
  | succ d ih =>
    intro v fuel x hv hf
    obtain ⟨k, rfl⟩ : ∃ k, fuel = k + 1 := ⟨fuel - 1, by omega⟩
    show D_X6_slopes_28b _ _ _ _ _ _ = _
    unfold D_X6_slopes_28b D_X6_slopes_66
    have hv3 := h.slp hs (show v ≤ 3 by omega)
    have q : ¬ (3 : Int32) < nI v := by rw [lt_i, nI_toInt (by omega)]; show ¬ (3 : Int) < _; omega
    rw [if_neg q, se5 h hs, gd_true, scl h hs, up2_2, ah_eq hv3, Option.bind_some]
    have e := ih (v + 1) k (nI v) (by omega) (by omega)
    rw [nI_succ] at e
    rw [SLf_s H v] at e
    rw [hH v (by omega)]
    cases hb : H v
    · simp only [hb] at e
      simpa using e
    · simp only [hb] at e
      simpa [i10] using e
theorem sl_m (h : Rel σ τ) {s : Nat} (hs : s < nSec σ) (H : Nat → Bool) (hH : ∀ v, v ≤ 3 → allF (up2 σ 2 s (nI v)) (nRed (up2 σ 2 s (nI v))) = H v) (was : Int32) : ∀ d v fuel x, v + d = 4 → d < fuel → D_X7_slopes_22 (nI s) was fuel (up2 τ 1 s x) (SLf H v) (nI v) = some (SLf H 4, up2 τ 1 s was) := by
  intro d
  induction d with
  | zero =>
    intro v fuel x hv hf
    obtain ⟨k, rfl⟩ : ∃ k, fuel = k + 1 := ⟨fuel - 1, by omega⟩
    have : v = 4 := by omega
    subst this
    show D_X7_slopes_22b _ _ _ _ _ _ = _
    unfold D_X7_slopes_22b D_X7_slopes_60
    rw [if_pos (by decide), se5 h hs, gd_true, scl h hs, up2_2]
  | succ d ih =>
    intro v fuel x hv hf
    obtain ⟨k, rfl⟩ : ∃ k, fuel = k + 1 := ⟨fuel - 1, by omega⟩
    show D_X7_slopes_22b _ _ _ _ _ _ = _
    unfold D_X7_slopes_22b D_X7_slopes_52
    have hv3 := h.slp hs (show v ≤ 3 by omega)
    have q : ¬ (4 : Int32) ≤ nI v := nI_ge (b := 4) (by omega) (by decide)
    rw [if_neg q, se5 h hs, gd_true, scl h hs, up2_2, as_eq hv3, Option.bind_some]
    have e := ih (v + 1) k (nI v) (by omega) (by omega)
    rw [nI_succ] at e
    rw [SLf_s H v] at e
    rw [hH v (by omega)]
    cases hb : H v
    · simp only [hb] at e
      simpa using e
    · simp only [hb] at e
      simpa [i10] using e
theorem pf_slopes (h : Rel σ τ) (x : Int32) : E2 (D_X6_slopes σ x) (D_X7_slopes τ x) := by
  rcases secc h x with hn | ⟨s, hs, rfl⟩
  · exact ⟨-1, σ, τ, by simp [D_X6_slopes, hasS_n h hn], by simp [D_X7_slopes, noS_n h hn, i10], h⟩
  · obtain ⟨e0, v, hv, ev⟩ := h.slo s hs
    have c := sl_c h hs _ (fun v _ => rfl) (σ 2 s) 4 0 FU (σ 2 s) rfl (FU_lt (by decide))
    have m := sl_m h hs _ (fun v _ => rfl) (τ 1 s) 4 0 FU (τ 1 s) rfl (FU_lt (by decide))
    rw [up2_self] at c m
    refine ⟨SLf (fun v => allF (up2 σ 2 s (nI v)) (nRed (up2 σ 2 s (nI v)))) 4, σ, τ, ?_, ?_, h⟩
    · unfold D_X6_slopes
      rw [hasS_y h hs, Option.bind_some, if_neg i10, se5 h hs, gd_true, scl h hs]
      exact c
    · unfold D_X7_slopes
      rw [noS_y h hs, Option.bind_some, if_pos rfl, se5 h hs, gd_true, scl h hs]
      exact m
theorem ki_c (h : Rel σ τ) {a : Nat} (ha : a < nRid σ) (H : Nat → Bool) (hH : ∀ v, v ≤ 2 → allF (up2 σ (5 + a) 0 (nI v)) (nRed (up2 σ (5 + a) 0 (nI v))) = H v) (was : Int32) : ∀ d v fuel x, v + d = 3 → d < fuel → D_X6_kinds_34 (5 + a) was fuel (up2 σ (5 + a) 0 x) (SLf H v) (nI v) = some (SLf H 3, up2 σ (5 + a) 0 was) := by
  intro d
  induction d with
  | zero =>
    intro v fuel x hv hf
    obtain ⟨k, rfl⟩ : ∃ k, fuel = k + 1 := ⟨fuel - 1, by omega⟩
    have : v = 3 := by omega
    subst this
    show D_X6_kinds_34b _ _ _ _ _ _ = _
    unfold D_X6_kinds_34b D_X6_kinds_75
    rw [if_pos (by decide), up2_2]
  | succ d ih =>
    intro v fuel x hv hf
    obtain ⟨k, rfl⟩ : ∃ k, fuel = k + 1 := ⟨fuel - 1, by omega⟩
    show D_X6_kinds_34b _ _ _ _ _ _ = _
    unfold D_X6_kinds_34b D_X6_kinds_69
    have hv3 := h.kin ha (show v ≤ 2 by omega)
    have q : ¬ (2 : Int32) < nI v := by rw [lt_i, nI_toInt (by omega)]; show ¬ (2 : Int) < _; omega
    rw [if_neg q, up2_2, ah_eq hv3, Option.bind_some]
    have e := ih (v + 1) k (nI v) (by omega) (by omega)
    rw [nI_succ] at e
    rw [SLf_s H v] at e
    rw [hH v (by omega)]
    cases hb : H v
    · simp only [hb] at e
      simpa using e
    · simp only [hb] at e
      simpa [i10] using e
theorem ki_m (h : Rel σ τ) {a : Nat} (ha : a < nRid σ) (H : Nat → Bool) (hH : ∀ v, v ≤ 2 → allF (up2 σ (5 + a) 0 (nI v)) (nRed (up2 σ (5 + a) 0 (nI v))) = H v) (was : Int32) : ∀ d v fuel x, v + d = 3 → d < fuel → D_X7_kinds_22 (nI a) was fuel (up2 τ 2 a x) (SLf H v) (nI v) = some (SLf H 3, up2 τ 2 a was) := by
  intro d
  induction d with
  | zero =>
    intro v fuel x hv hf
    obtain ⟨k, rfl⟩ : ∃ k, fuel = k + 1 := ⟨fuel - 1, by omega⟩
    have : v = 3 := by omega
    subst this
    show D_X7_kinds_22b _ _ _ _ _ _ = _
    unfold D_X7_kinds_22b D_X7_kinds_60
    rw [if_pos (by decide), ri4 h ha, gd_true, rcl h ha, up2_2]
  | succ d ih =>
    intro v fuel x hv hf
    obtain ⟨k, rfl⟩ : ∃ k, fuel = k + 1 := ⟨fuel - 1, by omega⟩
    show D_X7_kinds_22b _ _ _ _ _ _ = _
    unfold D_X7_kinds_22b D_X7_kinds_52
    have hv3 := h.kin ha (show v ≤ 2 by omega)
    have q : ¬ (3 : Int32) ≤ nI v := nI_ge (b := 3) (by omega) (by decide)
    rw [if_neg q, ri4 h ha, gd_true, rcl h ha, up2_2, as_eq hv3, Option.bind_some]
    have e := ih (v + 1) k (nI v) (by omega) (by omega)
    rw [nI_succ] at e
    rw [SLf_s H v] at e
    rw [hH v (by omega)]
    cases hb : H v
    · simp only [hb] at e
      simpa using e
    · simp only [hb] at e
      simpa [i10] using e
theorem pf_kinds (h : Rel σ τ) (x : Int32) : E2 (D_X6_kinds σ x) (D_X7_kinds τ x) := by
  rcases ridc h x with hn | ⟨a, ha, rfl⟩
  · exact ⟨-1, σ, τ, by simp [D_X6_kinds, hasR_n h hn], by simp [D_X7_kinds, noR_n h hn, i10], h⟩
  · have e0 := (h.rdr a ha).1
    have c := ki_c h ha _ (fun v _ => rfl) (σ (5 + a) 0) 3 0 FU (σ (5 + a) 0) rfl (FU_lt (by decide))
    have m := ki_m h ha _ (fun v _ => rfl) (τ 2 a) 3 0 FU (τ 2 a) rfl (FU_lt (by decide))
    rw [up2_self] at c m
    refine ⟨SLf (fun v => allF (up2 σ (5 + a) 0 (nI v)) (nRed (up2 σ (5 + a) 0 (nI v)))) 3, σ, τ, ?_, ?_, h⟩
    · unfold D_X6_kinds
      rw [hasR_y h ha, Option.bind_some, if_neg i10, ri4 h ha, gd_true, rcl h ha]
      exact c
    · unfold D_X7_kinds
      rw [noR_y h ha, Option.bind_some, if_pos rfl, ri4 h ha, gd_true, rcl h ha]
      exact m
theorem be_c (h : Rel σ τ) {a : Nat} (ha : a < nRid σ) (H : Nat → Bool) (hH : ∀ v, v ≤ 79 → allF (up2 σ (5 + a) 3 (nI v)) (nRed (up2 σ (5 + a) 3 (nI v))) = H v) (w was : Int32) : ∀ i fuel x m l, i ≤ 80 → i < fuel → D_X6_began_51 w (5 + a) was fuel (up2 σ (5 + a) 3 x) m l (nI i - 1) = some (if w = 0 then (BGr H i m l).1 else (BGr H i m l).2, up2 σ (5 + a) 3 was) := by
  intro i
  induction i with
  | zero =>
    intro fuel x m l hi hf
    obtain ⟨k, rfl⟩ : ∃ k, fuel = k + 1 := ⟨fuel - 1, by omega⟩
    show D_X6_began_51b _ _ _ _ _ _ _ _ = _
    unfold D_X6_began_51b D_X6_began_89
    rw [if_pos (by decide), up2_2]
    by_cases hw : w = 0
    · rw [if_pos hw, if_pos hw]; rfl
    · rw [if_neg hw, if_neg hw]; rfl
  | succ i ih =>
    intro fuel x m l hi hf
    obtain ⟨k, rfl⟩ : ∃ k, fuel = k + 1 := ⟨fuel - 1, by omega⟩
    show D_X6_began_51b _ _ _ _ _ _ _ _ = _
    unfold D_X6_began_51b D_X6_began_83
    have hv3 := h.age ha (show i ≤ 79 by omega)
    rw [nI_pred, if_neg (nI_pos (by omega)), up2_2, ah_eq hv3, Option.bind_some, nI_sub1]
    rw [BGr_s, hH i (by omega)]
    cases hb : H i
    · have e := ih k (nI i) m l (by omega) (by omega)
      simpa using e
    · have e := ih k (nI i) (m + 1) (nI i) (by omega) (by omega)
      simpa [i10] using e
theorem be_m (h : Rel σ τ) {a : Nat} (ha : a < nRid σ) (H : Nat → Bool) (hH : ∀ v, v ≤ 79 → allF (up2 σ (5 + a) 3 (nI v)) (nRed (up2 σ (5 + a) 3 (nI v))) = H v) (w was : Int32) : ∀ i fuel x m l, i ≤ 80 → i < fuel → D_X7_began_41 (nI a) w was fuel (up2 τ 5 a x) m l (nI i - 1) = some (if w = 0 then (BGr H i m l).1 else (BGr H i m l).2, up2 τ 5 a was) := by
  intro i
  induction i with
  | zero =>
    intro fuel x m l hi hf
    obtain ⟨k, rfl⟩ : ∃ k, fuel = k + 1 := ⟨fuel - 1, by omega⟩
    show D_X7_began_41b _ _ _ _ _ _ _ _ = _
    unfold D_X7_began_41b D_X7_began_95
    rw [if_pos (by decide), ri4 h ha, gd_true, rcl h ha, up2_2]
    by_cases hw : w = 0
    · rw [if_pos hw, if_pos hw]; rfl
    · rw [if_neg hw, if_neg hw]; rfl
  | succ i ih =>
    intro fuel x m l hi hf
    obtain ⟨k, rfl⟩ : ∃ k, fuel = k + 1 := ⟨fuel - 1, by omega⟩
    show D_X7_began_41b _ _ _ _ _ _ _ _ = _
    unfold D_X7_began_41b D_X7_began_72 D_X7_began_87
    have hv3 := h.age ha (show i ≤ 79 by omega)
    rw [nI_pred, if_neg (nI_pos (by omega)), ri4 h ha, gd_true, rcl h ha, up2_2, as_eq hv3, Option.bind_some, nI_sub1]
    rw [BGr_s, hH i (by omega)]
    cases hb : H i
    · have e := ih k (nI i) m l (by omega) (by omega)
      simpa using e
    · have e := ih k (nI i) (m + 1) (nI i) (by omega) (by omega)
      simpa [i10] using e
theorem pf_began (h : Rel σ τ) (x y : Int32) : E2 (D_X6_began σ x y) (D_X7_began τ x y) := by
  rcases ridc h x with hn | ⟨a, ha, rfl⟩
  · exact ⟨-1, σ, τ, by simp [D_X6_began, hasR_n h hn], by simp [D_X7_began, noR_n h hn, i10], h⟩
  · rcases wic y 1 (by decide) with hn | ⟨v, hv, rfl⟩
    · have e1 : D_X6_within σ y 1 = some 0 := wi_n hn
      have e2 : D_X7_in τ y.toInt64 0 1 = some 0 := inj_n hn rfl
      exact ⟨-2, σ, τ, by simp [D_X6_began, hasR_y h ha, i10, e1], by simp [D_X7_began, noR_y h ha, e2], h⟩
    · have e1 : D_X6_within σ (nI v) 1 = some 1 := wj_y (n := 1) hv (by decide)
      have e2 : D_X7_in τ (nI v).toInt64 0 1 = some 1 := inj_y hv (by decide) rfl
      have e0 := (h.rdr a ha).2.2.2.1
      have c := be_c h ha _ (fun v _ => rfl) (nI v) (σ (5 + a) 3) 80 FU (σ (5 + a) 3) 0 (-9) (by decide) (FU_lt (by decide))
      have m := be_m h ha _ (fun v _ => rfl) (nI v) (τ 5 a) 80 FU (τ 5 a) 0 (-9) (by decide) (FU_lt (by decide))
      rw [up2_self] at c m
      refine ⟨if nI v = 0 then (BGr (fun v => allF (up2 σ (5 + a) 3 (nI v)) (nRed (up2 σ (5 + a) 3 (nI v)))) 80 0 (-9)).1 else (BGr (fun v => allF (up2 σ (5 + a) 3 (nI v)) (nRed (up2 σ (5 + a) 3 (nI v)))) 80 0 (-9)).2, σ, τ, ?_, ?_, h⟩
      · unfold D_X6_began
        rw [hasR_y h ha, Option.bind_some, if_neg i10, e1, Option.bind_some, if_neg i10, ri4 h ha, gd_true, rcl h ha]
        exact c
      · unfold D_X7_began
        rw [noR_y h ha, Option.bind_some, if_pos rfl, e2, Option.bind_some, if_neg i10, ri4 h ha, gd_true, rcl h ha]
        exact m
end P5
