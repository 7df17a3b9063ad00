section PV
variable {σ τ : St}
theorem ride_rel (h : Rel σ τ) {ρ' st m : St} {S R : Nat} {T : Nat → Int32} (h1 : 1 ≤ S) (h5 : S ≤ 5) (hR : R ≤ 4) (hd : ∀ i, i < S → DG (T (3 + i)) 0 3 = true) (h3 : DG (T 1) 0 3 = true) (c0 : ∀ c, c ≠ 1 → c ≠ 2 → ¬ (5 ≤ c ∧ c ≤ 8) → ρ' c = up2 σ 0 5 0 c) (c1 : ρ' 1 3 = T 1 - 48) (c2 : ρ' 1 4 = nI S) (c3 : ρ' 1 5 = nI R) (c4 : ∀ s, s < S → ρ' 2 s = T (3 + s) - 48) (c5 : ∀ j, j < R → BV ρ' T (3 + S + 8 * j) j) (g : ∀ j, j < R → RG T S (3 + S + 8 * j)) (m0 : ∀ c, c ≠ 0 → ¬ (1 ≤ c ∧ c ≤ 12) → m c = τ c) (m1 : m 0 1 = T 1 - 48) (m2 : m 0 2 = nI S) (m3 : m 0 4 = nI R) (m30 : m 0 30 = τ 0 30) (m4 : ∀ s, s < S → m 1 s = T (3 + s) - 48) (m5 : ∀ j, j < R → RV st T (3 + S + 8 * j) j ∧ MV m st j) : Rel (up2 ρ' 9 3 0) (up2 (up2 m 0 22 0) 0 0 0) := by
  have e0 : ∀ c, c ≠ 9 → up2 ρ' 9 3 0 c = ρ' c := fun c hc => up2_ne c hc
  have f0 : ∀ c, c ≠ 0 → up2 (up2 m 0 22 0) 0 0 0 c = m c := fun c hc => by rw [up2_ne c hc, up2_ne c hc]
  have f1 : ∀ j, j ≠ 0 → j ≠ 22 → up2 (up2 m 0 22 0) 0 0 0 0 j = m 0 j := fun j a b => by rw [up2_j a, up2_j b]
  have s1 : nSec (up2 ρ' 9 3 0) = S := by unfold nSec; rw [e0 1 (by decide), c2, nI_clamp (by omega)]
  have s2 : nRid (up2 ρ' 9 3 0) = R := by unfold nRid; rw [e0 1 (by decide), c3, nI_clamp (by omega)]
  obtain ⟨v, -, v1, v2⟩ := DG_nat (by decide) h3
  have v3 : ρ' 1 3 = nI v := by rw [c1, v2, s48]
  have s3 : nSea (up2 ρ' 9 3 0) = v := by unfold nSea; rw [e0 1 (by decide), v3, nI_clamp (by omega)]
  have s4 : nRed (up2 ρ' 9 3 0) = 0 := by unfold nRed; rw [up2_s]; rfl
  refine ⟨⟨?_, by omega⟩, ⟨?_, by omega⟩, ⟨?_, by omega⟩, ⟨?_, by omega⟩, ⟨?_, ?_, ?_, ?_⟩, ⟨?_, ?_⟩, ?_, ?_, ?_, ?_⟩
  · rw [s1, e0 1 (by decide)]; exact c2
  · rw [s2, e0 1 (by decide)]; exact c3
  · rw [s3, e0 1 (by decide)]; exact v3
  · rw [s4, up2_s]; rfl
  · rw [f1 2 (by decide) (by decide), m2, e0 1 (by decide), c2]
  · rw [f1 4 (by decide) (by decide), m3, e0 1 (by decide), c3]
  · rw [f1 1 (by decide) (by decide), m1, e0 1 (by decide), c1]
  · rw [up2_j (by decide), up2_s, up2_s]
  · rw [f1 30 (by decide) (by decide), m30, e0 0 (by decide), c0 0 (by decide) (by decide) (by decide), up2_j (by decide)]; exact h.tr
  · rw [up2_s, e0 0 (by decide), c0 0 (by decide) (by decide) (by decide), up2_s]
  · intro s hs
    rw [s1] at hs
    obtain ⟨w, -, w1, w2⟩ := DG_nat (by decide) (hd s hs)
    rw [f0 1 (by decide), m4 s hs, e0 2 (by decide), c4 s hs]
    exact ⟨rfl, w, w1, by rw [w2, s48]⟩
  · intro j hj
    rw [s2] at hj
    obtain ⟨b1, b2, b3, b4, b5⟩ := c5 j hj
    obtain ⟨⟨r1, r2, r3, r4, r5⟩, w1, w2, w3, w4, w5⟩ := m5 j hj
    obtain ⟨hk, o, f, a1, a2, x1, x2, g1, g2, g3, g4, g5, g6, g7, g8, g9, g10, g11, g12⟩ := g j hj
    unfold RelR
    rw [f0 2 (by decide), f0 3 (by decide), f0 4 (by decide), f0 5 (by decide), f0 6 (by decide), e0 (5 + j) (by omega), s1, b1, b2, b3, b4, b5, w1, w2, w3, w4, w5, r1, r2, r3, r4, r5]
    refine ⟨rfl, rfl, rfl, rfl, rfl, ?_, ⟨o, f, g7, g8, by rw [g1, s48], by rw [g2, s48]⟩, ⟨10 * a1 + a2, by omega, tw_n g3 g4⟩, ⟨10 * x1 + x2, by omega, tw_n g5 g6⟩⟩
    rcases hk with q | q | q <;> rw [q]
    · exact ⟨0, by decide, by decide⟩
    · exact ⟨1, by decide, by decide⟩
    · exact ⟨2, by decide, by decide⟩
  · intro i hi
    rw [s4] at hi
    exact absurd hi (Nat.not_lt_zero i)
  · intro k hk
    have := h.she k hk
    unfold RelS at this ⊢
    rw [f0 18 (by decide), f0 19 (by decide), f0 20 (by decide), m0 18 (by decide) (by decide), m0 19 (by decide) (by decide), m0 20 (by decide) (by decide), e0 (14 + k) (by omega), e0 (18 + k) (by omega), c0 (14 + k) (by omega) (by omega) (by omega), c0 (18 + k) (by omega) (by omega) (by omega), up2_ne (14 + k) (by omega), up2_ne (18 + k) (by omega)]
    exact this
theorem pf_ride (h : Rel σ τ) (p1 p2 p3 p4 : Int32) : E2 (D_X6_ride σ p1 p2 p3 p4) (D_X7_ride τ p1 p2 p3 p4) := by
  have h0 := h.fau 0
  rcases shc p1 with hn | ⟨k, hk, rfl⟩
  · exact ⟨-1, up2 σ 0 5 0, up2 τ 0 0 0, by simp [D_X6_ride, isSh_n _ hn], by simp [D_X7_ride, noSh_n _ hn, i10, D_X7_refused], h0⟩
  rcases wic p2 2 (by decide) with hn | ⟨la, hla, rfl⟩
  · have e2 : D_X7_in τ p2.toInt64 0 2 = some 0 := inj_n hn rfl
    exact ⟨-2, up2 σ 0 5 0, up2 τ 0 0 0, by simp [D_X6_ride, isSh_y _ hk, isLa_n _ hn, i10], by simp [D_X7_ride, noSh_y _ hk, e2, D_X7_refused], h0⟩
  have e2 : D_X7_in τ (nI la).toInt64 0 2 = some 1 := inj_y hla (by decide) rfl
  have ec : D_X6_ride σ (nI k) (nI la) p3 p4 = (D_X5_faultOfCells (up2 σ 0 5 0) (14 + k) (nI la) p3 p4).bind fun y19 => if y19 = 0 then (D_X3_firstFault (up2 σ 0 5 0) (14 + k) p3 p4).bind fun y26 => if y26 = (-9 : Int32) then (D_X2_board (up2 σ 0 5 0) (14 + k) p3 p4).bind fun y36 => some ((up2 y36 9 3 (0 : Int32)) 1 5, up2 y36 9 3 (0 : Int32)) else some ((-100 : Int32) - y26, up2 σ 0 5 0) else (D_X6_failed (up2 σ 0 5 0) y19).bind fun y51 => some (y51.1, y51.2) := by
    unfold D_X6_ride
    rw [isSh_y _ hk, Option.bind_some, if_neg i10, isLa_y _ hla, Option.bind_some, if_neg i10, sh4 hk, gd_true, scl4 hk]
  have em : D_X7_ride τ (nI k) (nI la) p3 p4 = (D_X7_cellsBarred τ (nI k) (nI la) p3 p4.toInt64).bind fun y16 => if 0 ≤ y16.1 then (D_X7_readsRide y16.2 (((60 : Int32) * nI k) + p3) p4).bind fun y27 => if y27.1 = 0 then (D_X7_refused y27.2 ((-100 : Int32) - (y27.2 0 10))).bind fun y48 => some (y48.1, y48.2) else D_X7_ride_106 FU (up2 (up2 (up2 y27.2 0 1 (y27.2 0 11)) 0 2 ((up2 y27.2 0 1 (y27.2 0 11)) 0 12)) 0 4 ((up2 (up2 y27.2 0 1 (y27.2 0 11)) 0 2 ((up2 y27.2 0 1 (y27.2 0 11)) 0 12)) 0 13)) (0 : Int32) else some (y16.1, y16.2) := by
    unfold D_X7_ride
    rw [noSh_y _ hk, Option.bind_some, if_pos rfl, e2, Option.bind_some, if_neg i10]
  rw [ec, em]
  rcases fob h hk (nI la) p3 p4 with ⟨f, hf1, hf2, e3, e4⟩ | ⟨e3, e4, L, a, n, hL, hab, rfl, rfl, eL, t7⟩
  · have q : ¬ nI f = 0 := nI_ne0 (by omega) (by omega)
    have q2 : ¬ (0 : Int32) ≤ -10 - nI f := by
      rcases (show f = 1 ∨ f = 2 ∨ f = 3 ∨ f = 4 by omega) with rfl | rfl | rfl | rfl <;> decide
    refine ⟨-10 - nI f, up2 (up2 σ 0 5 0) 0 5 (nI f), up2 τ 0 0 (nI f), ?_, ?_, by rw [up2_2]; exact h.fau _⟩
    · rw [e3, Option.bind_some, if_neg q]; rfl
    · rw [e4, Option.bind_some, if_neg q2]
  have t : TA (up2 σ 0 5 0) k a n (fun x => σ (18 + k) (a + x)) := ⟨L, hL, hab, by rw [up2_c n40]; exact eL, fun x _ => by rw [up2_c (by omega)]⟩
  have tm : TM τ (60 * k + a) n (fun x => σ (18 + k) (a + x)) := ⟨by omega, by omega, fun x hx => by rw [Nat.add_assoc]; exact t7 (a + x) (by omega)⟩
  generalize (fun x => σ (18 + k) (a + x)) = T at t tm
  obtain ⟨S, h5, sE, hd, hs⟩ := st_eq t
  obtain ⟨ok, st, r1, r2, r3⟩ := RRide t tm h5 hd hs
  have ff : D_X3_firstFault (up2 σ 0 5 0) (14 + k) (nI a) (nI n) = CF (up2 σ 0 5 0) k a n S 0 := by
    unfold D_X3_firstFault
    rw [sE]; rfl
  rw [e3, Option.bind_some, if_pos rfl, ff, e4, Option.bind_some, if_pos (show (0 : Int32) ≤ 0 by decide), i60]
  rw [show D_X7_readsRide ((0 : Int32), τ).2 (nI (60 * k + a)) (nI n) = _ from r1, Option.bind_some]
  rcases r3 with ⟨q1, y, q2, q3, q4⟩ | ⟨q1, q2, q3, q4, q5, q6, q7, R, w1, w2, w3, w4, w5⟩
  · subst q1
    refine ⟨-100 - nI y, up2 σ 0 5 0, up2 st 0 0 0, ?_, ?_, ?_⟩
    · rw [q4, Option.bind_some, if_neg (fun q => nn9 (by rw [← q]; exact nI_pos' (by omega)))]
    · show (D_X7_refused st (-100 - st 0 10)).bind _ = _
      rw [q3]; rfl
    · refine h0.fr (fun _ _ _ _ => rfl) (fun c c1 c2 _ => ?_) ⟨?_, ?_, ?_, ?_⟩ ?_ ?_
      · rw [up2_ne c c1, up2_ne c c1]; exact r2.1 c c1 (by omega)
      · rw [up2_j (by decide), up2_j (by decide)]; exact r2.2 1 (by decide)
      · rw [up2_j (by decide), up2_j (by decide)]; exact r2.2 2 (by decide)
      · rw [up2_j (by decide), up2_j (by decide)]; exact r2.2 4 (by decide)
      · rw [up2_j (by decide), up2_j (by decide)]; exact r2.2 22 (by decide)
      · rw [up2_j (by decide), up2_j (by decide), r2.2 30 (by decide)]; exact h.tr
      · rw [up2_s, up2_s]
  · subst q1
    obtain ⟨ρ', b1, b2, b3, b4, b5, b6, b7⟩ := bd_eq t q3 h5 hd hs w2 w3 (fun j hj => (w5 j hj).1)
    generalize hA : up2 (up2 (up2 st 0 1 (st 0 11)) 0 2 (up2 st 0 1 (st 0 11) 0 12)) 0 4 (up2 (up2 st 0 1 (st 0 11)) 0 2 (up2 st 0 1 (st 0 11) 0 12) 0 13) = A
    have A0 : ∀ c, c ≠ 0 → A c = st c := fun c hc => by rw [← hA, up2_ne c hc, up2_ne c hc, up2_ne c hc]
    have A1 : A 0 1 = st 0 11 := by rw [← hA, up2_j (by decide), up2_j (by decide), up2_s]
    have A2 : A 0 2 = nI S := by rw [← hA, up2_j (by decide), up2_s, up2_j (by decide)]; exact q6
    have A4 : A 0 4 = nI R := by rw [← hA, up2_s, up2_j (by decide), up2_j (by decide)]; exact w4
    have A30 : A 0 30 = τ 0 30 := by rw [← hA, up2_j (by decide), up2_j (by decide), up2_j (by decide)]; exact r2.2 30 (by decide)
    obtain ⟨s1, m1, m2, m3⟩ := m106 h5 S 0 FU A (by omega) (FU_lt (by omega)) A2 (fun s hs => absurd hs (Nat.not_lt_zero s))
    obtain ⟨s2, k1, k2, k3⟩ := m138 w2 s1 R 0 FU s1 (by omega) (FU_lt (by omega)) (by rw [m2 0 (by decide)]; exact A4) (fun _ _ => rfl) (fun j hj => absurd hj (Nat.not_lt_zero j))
    have s20 : s2 0 = A 0 := (k2 0 (by decide)).trans (m2 0 (by decide))
    refine ⟨nI R, up2 ρ' 9 3 0, up2 (up2 s2 0 22 0) 0 0 0, ?_, ?_, ?_⟩
    · rw [q2, Option.bind_some, if_pos rfl, b1, Option.bind_some, up2_c (show 1 ≠ 9 by decide), b5]
    · show (if (1 : Int32) = 0 then _ else D_X7_ride_106 FU A 0) = _
      rw [if_neg i10]
      refine Eq.trans m1 ?_
      unfold D_X7_ride_135
      refine Eq.trans k1 ?_
      unfold D_X7_ride_223 D_X7_refused
      rw [up2_j (show 4 ≠ 22 by decide), s20, A4]; rfl
    · refine ride_rel h q3 h5 w2 (fun i hi => (hd i hi).2) q4 b2 b3 b4 b5 b6 b7 (fun j hj => (w5 j hj).1) (fun c c1 c2 => ?_) ?_ ?_ ?_ ?_ ?_ (st := st) (fun j hj => ⟨(w5 j hj).2, ?_⟩)
      · rw [k2 c (by omega), m2 c (by omega), A0 c c1]; exact r2.1 c c1 (by omega)
      · rw [s20, A1]; exact q5
      · rw [s20]; exact A2
      · rw [s20]; exact A4
      · rw [s20]; exact A30
      · intro s hs
        rw [k2 1 (by decide), m3 s hs, A0 7 (by decide)]; exact q7 s hs
      · have := k3 j hj
        unfold MV at this ⊢
        rw [m2 8 (by decide), m2 9 (by decide), m2 10 (by decide), m2 11 (by decide), m2 12 (by decide), A0 8 (by decide), A0 9 (by decide), A0 10 (by decide), A0 11 (by decide), A0 12 (by decide)] at this
        exact this
end PV
