theorem up2_2 {σ : St} {c j : Nat} {v w : Int32} : up2 (up2 σ c j v) c j w = up2 σ c j w := by
  funext a b
  simp only [up2_at]
  split <;> rfl
theorem two_x (x : Int32) : 2 * x + 100 = x + 100 + x := by
  have : ∀ y : BitVec 32, 2 * y + 100 = y + 100 + y := by
    intro y
    have e : (2 : BitVec 32) * y = y + y := BitVec.two_mul
    rw [e]; ac_rfl
  exact Int32.toBitVec_inj.mp (this x.toBitVec)
section P3
variable {σ τ : St}
theorem ri4 (h : Rel σ τ) {a : Nat} (ha : a < nRid σ) : inb (nI a) 4 = true := inb_nI (by have := h.rid4; omega) (by decide)
theorem se5 (h : Rel σ τ) {a : Nat} (ha : a < nSec σ) : inb (nI a) 5 = true := inb_nI (by have := h.sec5; omega) (by decide)
theorem rcl (h : Rel σ τ) {a : Nat} (ha : a < nRid σ) : (nI a).toNatClampNeg = a := nI_clamp (by have := h.rid4; omega)
theorem scl (h : Rel σ τ) {a : Nat} (ha : a < nSec σ) : (nI a).toNatClampNeg = a := nI_clamp (by have := h.sec5; omega)
theorem ridc (h : Rel σ τ) (x : Int32) : (x < 0 ∨ nI (nRid σ) ≤ x) ∨ ∃ j, j < nRid σ ∧ x = nI j := ixc x (by have := h.rid4; omega)
theorem secc (h : Rel σ τ) (x : Int32) : (x < 0 ∨ nI (nSec σ) ≤ x) ∨ ∃ j, j < nSec σ ∧ x = nI j := ixc x (by have := h.sec5; omega)
theorem pf_trace (h : Rel σ τ) : E1 (D_X6_trace σ) (D_X7_trace τ) := ⟨σ 0 4, rfl, by unfold D_X7_trace; rw [h.tr]⟩
theorem pf_fault (h : Rel σ τ) : E1 (D_X6_fault σ) (D_X7_fault τ) := ⟨σ 0 5, rfl, by unfold D_X7_fault; rw [h.fa]⟩
theorem pf_many (h : Rel σ τ) (x : Int32) : E1 (D_X6_many σ x) (D_X7_many τ x) := by
  unfold D_X6_many D_X7_many
  rw [h.sec, h.msec, h.rid, h.mrid, h.sea, h.msea, h.red, h.mred]
  repeat' split
  all_goals exact ⟨_, rfl, rfl⟩
theorem pf_slope (h : Rel σ τ) (x : Int32) : E1 (D_X6_slope σ x) (D_X7_slope τ x) := by
  rcases secc h x with hn | ⟨s, hs, rfl⟩
  · exact ⟨-1, by simp [D_X6_slope, hasS_n h hn], by simp [D_X7_slope, noS_n h hn, i10]⟩
  · exact ⟨σ 2 s, by simp [D_X6_slope, hasS_y h hs, i10, se5 h hs, gd_true, scl h hs], by simp [D_X7_slope, noS_y h hs, se5 h hs, gd_true, scl h hs, (h.slo s hs).1]⟩
theorem pf_tilt (h : Rel σ τ) (x y : Int32) : E2 (D_X6_tilt σ x y) (D_X7_tilt τ x y) := by
  rcases secc h x with hn | ⟨s, hs, rfl⟩
  · exact ⟨-1, σ, τ, by simp [D_X6_tilt, hasS_n h hn], by simp [D_X7_tilt, noS_n h hn, i10], h⟩
  · rcases wic y 3 (by decide) with hn | ⟨v, hv, rfl⟩
    · have e1 : D_X6_within σ y 3 = some 0 := wi_n hn
      have e2 : D_X7_in τ y.toInt64 0 3 = some 0 := inj_n hn rfl
      exact ⟨-2, σ, τ, by simp [D_X6_tilt, hasS_y h hs, i10, e1], by simp [D_X7_tilt, noS_y h hs, e2], h⟩
    · have e1 : D_X6_within σ (nI v) 3 = some 1 := wj_y (n := 3) hv (by decide)
      have e2 : D_X7_in τ (nI v).toInt64 0 3 = some 1 := inj_y hv (by decide) rfl
      exact ⟨σ 2 s, up2 σ 2 s (nI v), up2 τ 1 s (nI v), by simp [D_X6_tilt, hasS_y h hs, i10, e1, se5 h hs, gd_true, scl h hs], by simp [D_X7_tilt, noS_y h hs, e2, i10, se5 h hs, gd_true, scl h hs, (h.slo s hs).1], h.slp hs hv⟩
theorem told_n (h : Rel σ τ) (h0 : nRid σ = 0) : D_X2_isTold σ = some 0 := by
  unfold D_X2_isTold
  rw [h.rid, h0]; rfl
theorem told_y (h : Rel σ τ) (h0 : 0 < nRid σ) : D_X2_isTold σ = some 1 := by
  have := h.rid4
  unfold D_X2_isTold
  rw [h.rid, if_neg (nI_nle h0 (by omega))]
theorem mtold (h : Rel σ τ) (h0 : 0 < nRid σ) : ¬ τ 0 4 = 0 := by
  have := h.rid4
  rw [h.mrid]; exact nI_ne0 h0 (by omega)
theorem pf_seat (h : Rel σ τ) (x : Int32) : E2 (D_X6_seat σ x) (D_X7_seat τ x) := by
  rcases wic x 3 (by decide) with hn | ⟨v, hv, rfl⟩
  · have e1 : D_X6_within σ x 3 = some 0 := wi_n hn
    have e2 : D_X7_in τ x.toInt64 0 3 = some 0 := inj_n hn rfl
    exact ⟨-2, σ, τ, by simp [D_X6_seat, e1], by simp [D_X7_seat, e2], h⟩
  · have e1 : D_X6_within σ (nI v) 3 = some 1 := wj_y (n := 3) hv (by decide)
    have e2 : D_X7_in τ (nI v).toInt64 0 3 = some 1 := inj_y hv (by decide) rfl
    rcases Nat.eq_zero_or_pos (nRid σ) with h0 | h0
    · exact ⟨-3, σ, τ, by simp [D_X6_seat, e1, i10, told_n h h0], by simp [D_X7_seat, e2, i10, h.mrid, h0, nI_0], h⟩
    · exact ⟨σ 1 3, up2 σ 1 3 (nI v), up2 τ 0 1 (nI v), by simp [D_X6_seat, e1, i10, told_y h h0], by simp [D_X7_seat, e2, i10, mtold h h0, h.msea, ← h.sea], h.seat hv⟩
theorem pf_wish (h : Rel σ τ) (x y : Int32) : E2 (D_X6_wish σ x y) (D_X7_wish τ x y) := by
  rcases ridc h x with hn | ⟨a, ha, rfl⟩
  · exact ⟨-1, σ, τ, by simp [D_X6_wish, hasR_n h hn], by simp [D_X7_wish, noR_n h hn, i10], h⟩
  · rcases wic y 99 (by decide) with hn | ⟨v, hv, rfl⟩
    · have e1 : D_X6_within σ y 99 = some 0 := wi_n hn
      have e2 : D_X7_in τ y.toInt64 0 99 = some 0 := inj_n hn rfl
      exact ⟨-2, σ, τ, by simp [D_X6_wish, hasR_y h ha, i10, e1], by simp [D_X7_wish, noR_y h ha, e2], h⟩
    · have e1 : D_X6_within σ (nI v) 99 = some 1 := wj_y (n := 99) hv (by decide)
      have e2 : D_X7_in τ (nI v).toInt64 0 99 = some 1 := inj_y hv (by decide) rfl
      exact ⟨σ (5 + a) 4, up2 σ (5 + a) 4 (nI v), up2 τ 6 a (nI v), by simp [D_X6_wish, hasR_y h ha, i10, e1, ri4 h ha, gd_true, rcl h ha], by simp [D_X7_wish, noR_y h ha, e2, i10, ri4 h ha, gd_true, rcl h ha, (h.rdr a ha).2.2.2.2.1], h.wan ha hv⟩
theorem own_eq (ρ : St) (c : Nat) : D_X4_own ρ c = some (((1 : Int32) <<< ((ρ c 2) &&& 31)) - ((1 : Int32) <<< ((ρ c 1) &&& 31))) := rfl
theorem all_eq (h : Rel σ τ) {a : Nat} (ha : a < nRid σ) : D_X7_allOf τ (nI a) = some (((1 : Int32) <<< ((σ (5 + a) 2) &&& 31)) - ((1 : Int32) <<< ((σ (5 + a) 1) &&& 31))) := by
  unfold D_X7_allOf
  rw [ri4 h ha, gd_true, gd_true, rcl h ha, (h.rdr a ha).2.1, (h.rdr a ha).2.2.1]
theorem pf_ofRider (h : Rel σ τ) (x y : Int32) : E1 (D_X6_ofRider σ x y) (D_X7_ofRider τ x y) := by
  rcases ridc h x with hn | ⟨a, ha, rfl⟩
  · exact ⟨-1, by simp [D_X6_ofRider, hasR_n h hn], by simp [D_X7_ofRider, noR_n h hn, i10]⟩
  · obtain ⟨t1, t2, t3, t4, t5, -⟩ := h.rdr a ha
    unfold D_X6_ofRider D_X7_ofRider
    rw [hasR_y h ha, noR_y h ha, ri4 h ha, all_eq h ha]
    simp only [Option.bind_some, i10, if_false, gd_true, rcl h ha, own_eq, t1, t2, t3, t4, t5, if_true]
    repeat' split
    all_goals exact ⟨_, rfl, rfl⟩
/-- the years that a section brings -/
def gn (k x : Int32) : Int32 := if k = 0 then x else if k = 1 then x + 1 else (x + 1) / 2
theorem ya_eq (ρ : St) (c : Nat) (x : Int32) : D_X4_yearsAbove ρ c x = some (gn (ρ c 0) x) := by
  unfold D_X4_yearsAbove gn
  repeat' split
  all_goals rfl
theorem go_eq (h : Rel σ τ) {a s : Nat} (ha : a < nRid σ) (hs : s < nSec σ) : D_X7_gainOf τ (nI a) (nI s) = some (gn (σ (5 + a) 0) (σ 2 s)) := by
  unfold D_X7_gainOf gn
  simp only [ri4 h ha, se5 h hs, gd_true, rcl h ha, scl h hs, (h.rdr a ha).1, (h.slo s hs).1]
  repeat' split
  all_goals rfl
theorem pf_gain (h : Rel σ τ) (x y : Int32) : E1 (D_X6_gain σ x y) (D_X7_gain τ x y) := by
  rcases ridc h x with hn | ⟨a, ha, rfl⟩
  · exact ⟨-1, by simp [D_X6_gain, hasR_n h hn], by simp [D_X7_gain, noR_n h hn, i10]⟩
  · rcases secc h y with hn | ⟨s, hs, rfl⟩
    · exact ⟨-1, by simp [D_X6_gain, hasR_y h ha, i10, hasS_n h hn], by simp [D_X7_gain, noR_y h ha, noS_n h hn, i10]⟩
    · exact ⟨gn (σ (5 + a) 0) (σ 2 s), by simp [D_X6_gain, hasR_y h ha, i10, hasS_y h hs, ri4 h ha, se5 h hs, gd_true, rcl h ha, scl h hs, ya_eq], by simp [D_X7_gain, noR_y h ha, noS_y h hs, go_eq h ha hs]⟩
theorem pf_back (h : Rel σ τ) (x : Int32) : E2 (D_X6_back σ x) (D_X7_back τ x) := by
  have h8 := h.red8
  rcases wic x (nRed σ) (by omega) with hn | ⟨v, hv, rfl⟩
  · have e1 : D_X6_within σ x (σ 9 3) = some 0 := by rw [h.red]; exact wi_n hn
    have e2 : D_X7_in τ x.toInt64 0 (τ 0 22).toInt64 = some 0 := by rw [h.mred]; exact inj_n hn rfl
    exact ⟨-2, σ, τ, by simp [D_X6_back, e1], by simp [D_X7_back, e2], h⟩
  · have e1 : D_X6_within σ (nI v) (nI (nRed σ)) = some 1 := wj_y hv (by omega)
    have e2 : D_X7_in τ (nI v).toInt64 0 (nI (nRed σ)).toInt64 = some 1 := inj_y hv (by omega) rfl
    have e3 : nI (nRed σ) - nI v = nI (nRed σ - v) := pk_sub hv
    refine ⟨nI (nRed σ - v), up2 σ 9 3 (nI (nRed σ - v)), up2 τ 0 22 (nI (nRed σ - v)), by simp [D_X6_back, e1, i10, h.red, e3, up2_s], by simp [D_X7_back, e2, i10, h.mred, e3, up2_s], ?_⟩
    refine h.rds (fun k a _ _ _ => up2_ne k a) (fun k a _ _ _ => up2_ne k a) (fun j hj => up2_j hj) (n := nRed σ - v) (by omega) up2_s up2_s (fun i hi => ?_)
    have := h.rea i (by omega)
    unfold RelD at this ⊢
    rw [up2_ne 15 (by decide), up2_ne 16 (by decide), up2_ne 17 (by decide), up2_ne 10 (by decide), up2_ne 11 (by decide), up2_ne 12 (by decide), nRid_of (σ' := up2 σ 9 3 (nI (nRed σ - v))) (σ := σ) (by rw [up2_ne 1 (by decide)])]
    exact this
theorem pf_tell (h : Rel σ τ) (x : Int32) : E2 (D_X6_tell σ x) (D_X7_tell τ x) := by
  rcases ridc h x with hn | ⟨a, ha, rfl⟩
  · exact ⟨-1, σ, τ, by simp [D_X6_tell, hasR_n h hn], by simp [D_X7_tell, noR_n h hn, i10], h⟩
  · obtain ⟨t1, t2, t3, t4, t5, ⟨k, hk, ek⟩, -⟩ := h.rdr a ha
    have ne0 : 5 + a ≠ 0 := by omega
    rcases (show k = 0 ∨ k = 1 ∨ k = 2 by omega) with rfl | rfl | rfl
    · have ek : σ (5 + a) 0 = 0 := ek
      exact ⟨σ (5 + a) 3, up2 σ 0 4 (31 * σ 0 4 + 1), up2 τ 0 30 (31 * σ 0 4 + 1), by simp [D_X6_tell, hasR_y h ha, i10, ri4 h ha, gd_true, rcl h ha, ek, D_X6_toldAsRider, D_X6_beginBody, up2_c ne0], by simp [D_X7_tell, noR_y h ha, ri4 h ha, gd_true, rcl h ha, t1, ek, D_X7_tell_27, D_X7_tell_36, D_X7_tell_51, D_X7_traced, up2_c, t4, h.tr, show ¬ ((0 : Int32) = 2) by decide], h.tra _⟩
    · have ek : σ (5 + a) 0 = 1 := ek
      exact ⟨σ (5 + a) 3 + 100, up2 (up2 σ 0 4 (31 * σ 0 4 + 2)) 0 4 (31 * (31 * σ 0 4 + 2) + 1), up2 (up2 τ 0 30 (31 * σ 0 4 + 2)) 0 30 (31 * (31 * σ 0 4 + 2) + 1), by simp [D_X6_tell, hasR_y h ha, i10, ri4 h ha, gd_true, rcl h ha, ek, D_X6_toldAsLad, D_X6_toldAsRider, D_X6_beginBody, up2_c ne0, up2_s], by simp [D_X7_tell, noR_y h ha, ri4 h ha, gd_true, rcl h ha, t1, ek, D_X7_tell_27, D_X7_tell_36, D_X7_tell_51, D_X7_traced, up2_c, up2_s, t4, h.tr, i10, show ¬ ((1 : Int32) = 2) by decide, show ¬ ((1 : Int32) ≤ 0) by decide], (h.tra _).tra _⟩
    · have ek : σ (5 + a) 0 = 2 := ek
      exact ⟨σ (5 + a) 3 + 100 + σ (5 + a) 3, up2 (up2 (up2 (up2 σ 0 4 (31 * σ 0 4 + 3)) 0 4 (31 * (31 * σ 0 4 + 3) + 2)) 0 4 (31 * (31 * (31 * σ 0 4 + 3) + 2) + 1)) 0 4 (31 * (31 * (31 * (31 * σ 0 4 + 3) + 2) + 1) + 1), up2 (up2 (up2 (up2 τ 0 30 (31 * σ 0 4 + 3)) 0 30 (31 * (31 * σ 0 4 + 3) + 2)) 0 30 (31 * (31 * (31 * σ 0 4 + 3) + 2) + 1)) 0 30 (31 * (31 * (31 * (31 * σ 0 4 + 3) + 2) + 1) + 1), by simp [D_X6_tell, hasR_y h ha, i10, ri4 h ha, gd_true, rcl h ha, ek, D_X6_toldAsElder, D_X6_toldAsLad, D_X6_toldAsRider, D_X6_beginBody, up2_c ne0, up2_s, show ¬ ((2 : Int32) = 0) by decide, show ¬ ((2 : Int32) = 1) by decide], by simp [D_X7_tell, noR_y h ha, ri4 h ha, gd_true, rcl h ha, t1, ek, D_X7_tell_27, D_X7_tell_36, D_X7_tell_51, D_X7_traced, up2_c, up2_s, t4, h.tr, show ¬ ((2 : Int32) = 0) by decide, show ¬ ((2 : Int32) = 1) by decide, show ¬ ((2 : Int32) ≤ 0) by decide, two_x], (((h.tra _).tra _).tra _).tra _⟩
theorem pf_ring (h : Rel σ τ) (x : Int32) : E2 (D_X6_ring σ x) (D_X7_ring τ x) := by
  rcases ridc h x with hn | ⟨a, ha, rfl⟩
  · exact ⟨-1, σ, τ, by simp [D_X6_ring, hasR_n h hn], by simp [D_X7_ring, noR_n h hn, i10], h⟩
  · have t1 := (h.rdr a ha).1
    by_cases hk : σ (5 + a) 0 = 2
    · exact ⟨60, up2 σ 0 4 (31 * σ 0 4 + 5), up2 τ 0 30 (31 * σ 0 4 + 5), by simp [D_X6_ring, hasR_y h ha, i10, ri4 h ha, gd_true, rcl h ha, hk, D_X6_beginBody], by simp [D_X7_ring, D_X7_ring_26, noR_y h ha, ri4 h ha, gd_true, rcl h ha, t1, hk, D_X7_traced, up2_c, h.tr], h.tra _⟩
    · exact ⟨nI a, up2 σ 0 4 (31 * σ 0 4 + 4), up2 τ 0 30 (31 * σ 0 4 + 4), by simp [D_X6_ring, hasR_y h ha, i10, ri4 h ha, gd_true, rcl h ha, hk, D_X6_beginBody], by simp [D_X7_ring, D_X7_ring_26, noR_y h ha, ri4 h ha, gd_true, rcl h ha, t1, hk, D_X7_traced, up2_c, h.tr], h.tra _⟩
theorem pf_as (h : Rel σ τ) (x y : Int32) : E2 (D_X6_as σ x y) (D_X7_as τ x y) := by
  have h' := h.fau 0
  have er : nRid (up2 σ 0 5 0) = nRid σ := nRid_of (by rw [up2_ne 1 (by decide)])
  rcases ridc h x with hn | ⟨a, ha, rfl⟩
  · exact ⟨-1, up2 σ 0 5 0, up2 τ 0 0 0, by simp [D_X6_as, hasR_n h' (x := x) (by rw [er]; exact hn)], by simp [D_X7_as, noR_n h hn, i10, D_X7_refused], h'⟩
  · rcases wic y 2 (by decide) with hn | ⟨v, hv, rfl⟩
    · have e1 : D_X6_within (up2 σ 0 5 0) y 2 = some 0 := wi_n hn
      have e2 : D_X7_in τ y.toInt64 0 2 = some 0 := inj_n hn rfl
      exact ⟨-2, up2 σ 0 5 0, up2 τ 0 0 0, by simp [D_X6_as, hasR_y h' (j := a) (by rw [er]; exact ha), i10, e1], by simp [D_X7_as, noR_y h ha, e2, D_X7_refused], h'⟩
    · have e1 : D_X6_within (up2 σ 0 5 0) (nI v) 2 = some 1 := wj_y (n := 2) hv (by decide)
      have e2 : D_X7_in τ (nI v).toInt64 0 2 = some 1 := inj_y hv (by decide) rfl
      have t1 := (h.rdr a ha).1
      have ne0 : 5 + a ≠ 0 := by omega
      by_cases hk : σ (5 + a) 0 < nI v
      · exact ⟨-12, up2 (up2 σ 0 5 0) 0 5 2, up2 τ 0 0 2, by simp [D_X6_as, hasR_y h' (j := a) (by rw [er]; exact ha), i10, e1, ri4 h ha, gd_true, rcl h ha, up2_c ne0, hk, D_X6_failed], by simp [D_X7_as, noR_y h ha, e2, i10, ri4 h ha, gd_true, rcl h ha, t1, hk, D_X7_failed], by rw [up2_2]; exact h.fau 2⟩
      · exact ⟨1, up2 σ 0 5 0, up2 τ 0 0 0, by simp [D_X6_as, hasR_y h' (j := a) (by rw [er]; exact ha), i10, e1, ri4 h ha, gd_true, rcl h ha, up2_c ne0, hk], by simp [D_X7_as, noR_y h ha, e2, i10, ri4 h ha, gd_true, rcl h ha, t1, hk, D_X7_refused], h'⟩
end P3
