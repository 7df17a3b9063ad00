def vqN (w : Nat) : Prop := w ≤ 3 ∨ (10 ≤ w ∧ w ≤ 14) ∨ (20 ≤ w ∧ w ≤ 23)
theorem isQ_fin : ∀ w : Fin 24, (w.val ≤ 3 ∨ (10 ≤ w.val ∧ w.val ≤ 14) ∨ (20 ≤ w.val ∧ w.val ≤ 23)) → D_X6_isSittingQuestion σ00 (nI w.val) = some 1 := by decide +kernel
theorem isQ_y (ρ : St) {w : Nat} (h : vqN w) : D_X6_isSittingQuestion ρ (nI w) = some 1 := by
  have h24 : w < 24 := by unfold vqN at h; omega
  exact isQ_fin ⟨w, h24⟩ h
theorem isQ_n (ρ : St) {x : Int32} (h : ¬ ((0 ≤ x.toInt ∧ x.toInt ≤ 3) ∨ (10 ≤ x.toInt ∧ x.toInt ≤ 14) ∨ (20 ≤ x.toInt ∧ x.toInt ≤ 23))) : D_X6_isSittingQuestion ρ x = some 0 := by
  unfold D_X6_isSittingQuestion D_X6_isSittingQuestion_9 D_X6_isSittingQuestion_21
  have c0 : (0 : Int32).toInt = 0 := by decide
  have c3 : (3 : Int32).toInt = 3 := by decide
  have c10 : (10 : Int32).toInt = 10 := by decide
  have c15 : (15 : Int32).toInt = 15 := by decide
  have c20 : (20 : Int32).toInt = 20 := by decide
  have c24 : (24 : Int32).toInt = 24 := by decide
  simp only [lt_i, le_i, c0, c3, c10, c15, c20, c24]
  repeat' split
  all_goals first | rfl | omega
theorem qcase (x : Int32) : (∃ w, vqN w ∧ x = nI w) ∨ ¬ ((0 ≤ x.toInt ∧ x.toInt ≤ 3) ∨ (10 ≤ x.toInt ∧ x.toInt ≤ 14) ∨ (20 ≤ x.toInt ∧ x.toInt ≤ 23)) := by
  by_cases h : (0 ≤ x.toInt ∧ x.toInt ≤ 3) ∨ (10 ≤ x.toInt ∧ x.toInt ≤ 14) ∨ (20 ≤ x.toInt ∧ x.toInt ≤ 23)
  · left
    have h0 : ¬ x < 0 := by rw [lt_i]; show ¬ x.toInt < 0; omega
    obtain ⟨w, hw, rfl⟩ := nI_of h0
    rw [nI_toInt hw] at h
    exact ⟨w, by unfold vqN; omega, rfl⟩
  · exact Or.inr h
section PA
variable {σ τ : St}
theorem sitm_y (x y z n : Int32) {w : Nat} (hw : vqN w) (hx : D_X7_noSheet τ x = some 0) : D_X7_sit τ x y z n (nI w) = D_X7_sit_61 τ x y z n (nI w) 1 := by
  unfold D_X7_sit D_X7_sit_56
  rw [hx, Option.bind_some, if_pos rfl]
  by_cases h1 : w ≤ 3
  · have e : D_X7_in τ (nI w).toInt64 0 3 = some 1 := inj_y (n := 3) h1 (by decide) rfl
    rw [e]; rfl
  · have e : D_X7_in τ (nI w).toInt64 0 3 = some 0 := by
      have h24 : w < 24 := by unfold vqN at hw; omega
      refine inj_n (n := 3) (Or.inr ?_) rfl
      exact nI_lt (by omega) (by omega)
    rw [e, Option.bind_some, if_pos rfl]
    have h24 : w < 24 := by unfold vqN at hw; omega
    by_cases h2 : w ≤ 14
    · have e : D_X7_in τ (nI w).toInt64 10 14 = some 1 := in_y (lo := nI 10) (hi := nI 14) rfl rfl (nI_le (by unfold vqN at hw; omega) (by omega)) (nI_le h2 (by decide))
      rw [e]; rfl
    · have e : D_X7_in τ (nI w).toInt64 10 14 = some 0 := in_n (lo := nI 10) (hi := nI 14) rfl rfl (Or.inr (nI_lt (by omega) (by omega)))
      have e2 : D_X7_in τ (nI w).toInt64 20 23 = some 1 := in_y (lo := nI 20) (hi := nI 23) rfl rfl (nI_le (by unfold vqN at hw; omega) (by omega)) (nI_le (by omega) (by decide))
      rw [e, Option.bind_some, if_pos rfl, e2]; rfl
theorem sitm_n (x y z n : Int32) {u : Int32} (hu : ¬ ((0 ≤ u.toInt ∧ u.toInt ≤ 3) ∨ (10 ≤ u.toInt ∧ u.toInt ≤ 14) ∨ (20 ≤ u.toInt ∧ u.toInt ≤ 23))) (hx : D_X7_noSheet τ x = some 0) : D_X7_sit τ x y z n u = D_X7_sit_61 τ x y z n u 0 := by
  unfold D_X7_sit
  have k : ∀ lo hi : Nat, lo ≤ 23 → hi ≤ 23 → ¬ ((lo : Int) ≤ u.toInt ∧ u.toInt ≤ hi) → u < nI lo ∨ nI hi < u := by
    intro lo hi h1 h2 h3
    rw [lt_i, lt_i, nI_toInt (by omega), nI_toInt (by omega)]
    omega
  have e0 : D_X7_in τ u.toInt64 0 3 = some 0 := in_n (lo := nI 0) (hi := nI 3) rfl rfl (k 0 3 (by decide) (by decide) (by omega))
  have e1 : D_X7_in τ u.toInt64 10 14 = some 0 := in_n (lo := nI 10) (hi := nI 14) rfl rfl (k 10 14 (by decide) (by decide) (by omega))
  have e2 : D_X7_in τ u.toInt64 20 23 = some 0 := in_n (lo := nI 20) (hi := nI 23) rfl rfl (k 20 23 (by decide) (by decide) (by omega))
  rw [hx, Option.bind_some, if_pos rfl, e0, Option.bind_some, if_pos rfl, e1, Option.bind_some, if_pos rfl, e2, Option.bind_some, if_pos rfl]
theorem sit_fin (h : Rel σ τ) {st τ' : St} (hst : Rel st τ') {S : Nat → Nat} {B : Nat} (hs : Sit σ τ st S B) {w : Nat} (hw : vqN w) : E1 (D_X6_ofSitting st (nI w)) (D_X7_sitBy τ (nI B) (nI w)) := by
  have h4 := h.rid4
  have h5 := h.sec5
  have h24 : w < 24 := by unfold vqN at hw; omega
  have s1 := hs.1
  have r1 : st 1 = σ 1 := s1 1 (by decide) (by decide)
  have eR : nRid st = nRid σ := nRid_of (by rw [r1])
  have eS : nSec st = nSec σ := nSec_of (by rw [r1])
  have eE : nSea st = nSea σ := nSea_of (by rw [r1])
  have c : D_X6_ofSitting st (nI w) = D_X6_ofSitting_33 st (nI w) (nI (LT S (nRid σ))) := os_loop h hs (nI w) (nRid σ) 0 FU (by omega) (FU_lt (by omega))
  rw [c]
  unfold D_X6_ofSitting_33 D_X7_sitBy
  rw [fo_eq hst (LT_lt S h4), eE, eS, wr_eq h hs, Option.bind_some, Option.bind_some]
  have l20 : nI w < (20 : Int32) ↔ w < 20 := nI_ltI (b := 20) (by omega) (by decide)
  have l10 : nI w < (10 : Int32) ↔ w < 10 := nI_ltI (b := 10) (by omega) (by decide)
  by_cases hw1 : nI w = (1 : Int32)
  · rw [if_pos hw1, if_pos hw1]; exact ⟨_, rfl, rfl⟩
  · rw [if_neg hw1, if_neg hw1]
    cases hF : FO (LT S (nRid σ)) (nSea σ) (nSec σ) with
    | some s =>
      have hsl := FO_lt hF
      have q : ¬ enc (some s) = -9 := fun e => by have := (enc_n9 (x := some s) (fun m hm => by cases hm; omega)).mp e; cases this
      have q2 : ¬ enc (some s) < 0 := nI_pos (show s < 2 ^ 31 by omega)
      rw [if_neg q, if_neg q2]; exact ⟨_, rfl, rfl⟩
    | none =>
      rw [if_pos (show enc none = -9 from rfl), if_pos (show enc none < 0 by decide)]
      by_cases c20 : w < 20
      · rw [if_pos (l20.mpr c20), if_pos (l20.mpr c20)]
        by_cases c10 : w < 10
        · rw [if_pos (l10.mpr c10), if_pos (l10.mpr c10)]
          have el : D_X6_eldest st = some (nI (EB (fun a => AG σ a (nI (S a))) (nRid σ))) := el_loop h hst hs (nRid σ) 0 FU (by omega) (FU_lt (by omega))
          have ro : D_X6_rightOnes st = some (SLf (fun a => decide (AG σ a (nI (S a)) = σ (5 + a) 4)) (nRid σ)) := ro_loop h hst hs (nRid σ) 0 FU (by omega) (FU_lt (by omega))
          have sb : D_X7_sitBy_105 τ (nI B) (nI w) FU 0 0 0 = D_X7_sitBy_191 τ (nI w) (SLf (fun a => decide (AG σ a (nI (S a)) = σ (5 + a) 4)) (nRid σ)) (nI (EB (fun a => AG σ a (nI (S a))) (nRid σ))) := sb_loop h hs (nI w) (nRid σ) 0 FU (by omega) (FU_lt (by omega))
          obtain ⟨m, hm, em⟩ := SLf_nat (fun a => decide (AG σ a (nI (S a)) = σ (5 + a) 4)) (nRid σ) (by omega)
          have hm32 : m < 32 := Nat.lt_of_lt_of_le hm (Nat.le_trans (Nat.pow_le_pow_right (by decide) h4) (by decide))
          rw [el, ro, sb, em]
          unfold D_X7_sitBy_191
          have hw3 : w = 0 ∨ w = 2 ∨ w = 3 := by
            have : w ≠ 1 := fun e => hw1 (by rw [e]; rfl)
            unfold vqN at hw; omega
          rcases hw3 with rfl | rfl | rfl
          · exact ⟨nI (pcN m), by simp [bc_eq st hm32, nI_0, show ¬ ((0 : Int32) = 3) by decide], by simp [bi_eq τ hm32, nI_0]⟩
          · have q : nI 2 = 2 := rfl
            exact ⟨nI m, by simp [q, show ¬ ((2 : Int32) = 3) by decide, show ¬ ((2 : Int32) = 0) by decide], by simp [q, show ¬ ((2 : Int32) = 0) by decide]⟩
          · have q : nI 3 = 3 := rfl
            exact ⟨nI (EB (fun a => AG σ a (nI (S a))) (nRid σ)), by simp [q], by simp [q, show ¬ ((3 : Int32) = 0) by decide, show ¬ ((3 : Int32) = 2) by decide]⟩
        · rw [if_neg (fun q => c10 (l10.mp q)), if_neg (fun q => c10 (l10.mp q))]
          have q : nI w - (10 : Int32) = nI (w - 10) := pk_sub (b := 10) (by omega)
          rw [q]
          by_cases hsc : w - 10 < nSec σ
          · have ec := hasS_y hst (j := w - 10) (by rw [eS]; exact hsc)
            have em := noS_y h hsc
            rw [ec, em, Option.bind_some, Option.bind_some, if_neg i10, if_pos rfl, on_eq st (LT_lt S h4) (by omega), ao_eq h hs (by omega), dgt_LT S h4 (by omega)]
            exact ⟨_, rfl, rfl⟩
          · have ec := hasS_n hst (x := nI (w - 10)) (Or.inr (by rw [eS]; exact nI_le (by omega) (by omega)))
            have em := noS_n h (x := nI (w - 10)) (Or.inr (nI_le (by omega) (by omega)))
            rw [ec, em, Option.bind_some, Option.bind_some, if_pos rfl, if_neg i10]
            exact ⟨_, rfl, rfl⟩
      · rw [if_neg (fun q => c20 (l20.mp q)), if_neg (fun q => c20 (l20.mp q))]
        have q : nI w - (20 : Int32) = nI (w - 20) := pk_sub (b := 20) (by omega)
        have q2 : nI B + nI w - (20 : Int32) = nI (B + (w - 20)) := by
          rw [nI_add, show (20 : Int32) = nI 20 from rfl, pk_sub (by omega)]
          congr 1; omega
        rw [q, q2]
        by_cases hsc : w - 20 < nRid σ
        · have ec := hasR_y hst (j := w - 20) (by rw [eR]; exact hsc)
          have em := noR_y h hsc
          obtain ⟨p1, p2, p3⟩ := hs.2.1 (w - 20) hsc
          have p4 := hs.2.2
          rw [ec, em, Option.bind_some, Option.bind_some, if_neg i10, if_pos rfl, ri4 h hsc, gd_true, gd_true, rcl h hsc, p2, yo_eq hst, inb_nI (show B + (w - 20) < 240 by omega) (by decide), gd_true, nI_clamp (by omega), p3, ab_eq h hsc, AG_cong r1 (s1 2 (by decide) (by decide)) (s1 (5 + (w - 20)) (by omega) (by omega))]
          exact ⟨_, rfl, rfl⟩
        · have ec := hasR_n hst (x := nI (w - 20)) (Or.inr (by rw [eR]; exact nI_le (by omega) (by omega)))
          have em := noR_n h (x := nI (w - 20)) (Or.inr (nI_le (by omega) (by omega)))
          rw [ec, em, Option.bind_some, Option.bind_some, if_pos rfl, if_neg i10]
          exact ⟨_, rfl, rfl⟩
theorem pf_sit (h : Rel σ τ) (p1 p2 p3 p4 p5 : Int32) : E2 (D_X6_sit σ p1 p2 p3 p4 p5) (D_X7_sit τ p1 p2 p3 p4 p5) := by
  have h0 := h.fau 0
  have h4 := h.rid4
  have eR : nRid (up2 σ 0 5 0) = nRid σ := nRid_of (by rw [up2_ne 1 (by decide)])
  rcases shc p1 with hn | ⟨k, hk, rfl⟩
  · exact ⟨-1, up2 σ 0 5 0, up2 τ 0 0 0, by simp [D_X6_sit, isSh_n _ hn], by simp [D_X7_sit, noSh_n _ hn, i10, D_X7_refused], h0⟩
  · rcases qcase p5 with ⟨w, hw, rfl⟩ | hq
    · rw [sitm_y _ _ _ _ hw (noSh_y τ hk)]
      unfold D_X7_sit_61
      rcases wic p2 2 (by decide) with hn | ⟨la, hla, rfl⟩
      · have e2 : D_X7_in τ p2.toInt64 0 2 = some 0 := inj_n hn rfl
        exact ⟨-2, up2 σ 0 5 0, up2 τ 0 0 0, by simp [D_X6_sit, isSh_y _ hk, isLa_n _ hn, i10], by simp [e2, D_X7_sit_80, D_X7_refused], h0⟩
      · have e2 : D_X7_in τ (nI la).toInt64 0 2 = some 1 := inj_y hla (by decide) rfl
        rw [e2, Option.bind_some, if_neg i10, if_neg i10]
        rcases Nat.eq_zero_or_pos (nRid σ) with hr | hr
        · exact ⟨-3, up2 σ 0 5 0, up2 τ 0 0 0, by simp [D_X6_sit, isSh_y _ hk, isLa_y _ hla, i10, isQ_y _ hw, told_n h0 (by rw [eR]; exact hr)], by simp [h.mrid, hr, nI_0, D_X7_refused], h0⟩
        · rw [if_neg (mtold h hr)]
          have c0 : ∀ r, D_X6_sit σ (nI k) (nI la) p3 p4 (nI w) = r ↔ ((D_X5_faultOfCells (up2 σ 0 5 0) (14 + k) (nI la) p3 p4).bind fun y28 => if y28 = 0 then if p4 = nI (nRid σ) then (D_X6_takeSitting (up2 σ 0 5 0) (14 + k) p3).bind fun y42 => if y42.1 = 0 then some ((-2 : Int32), y42.2) else (D_X6_ofSitting y42.2 (nI w)).bind fun y46 => some (y46, y42.2) else some ((-2 : Int32), up2 σ 0 5 (0 : Int32)) else (D_X6_failed (up2 σ 0 5 (0 : Int32)) y28).bind fun y52 => some (y52.1, y52.2)) = r := by
            intro r
            unfold D_X6_sit
            rw [isSh_y _ hk, Option.bind_some, if_neg i10, isLa_y _ hla, Option.bind_some, if_neg i10, isQ_y _ hw, Option.bind_some, if_neg i10, told_y h0 (by rw [eR]; exact hr), Option.bind_some, if_neg i10, sh4 hk, gd_true, scl4 hk, up2_c (by decide), h.rid]
          rcases fob h hk (nI la) p3 p4 with ⟨f, hf1, hf2, e3, e4⟩ | ⟨e3, e4, L, a, b, hL, hab, rfl, rfl, eL, t7⟩
          · have q : ¬ nI f = 0 := nI_ne0 (by omega) (by omega)
            have q2 : ¬ (0 : Int32) ≤ -10 - nI f := by
              rcases (show f = 1 ∨ f = 2 ∨ f = 3 ∨ f = 4 by omega) with rfl | rfl | rfl | rfl <;> decide
            refine ⟨-10 - nI f, up2 (up2 σ 0 5 0) 0 5 (nI f), up2 τ 0 0 (nI f), (c0 _).mpr ?_, ?_, by rw [up2_2]; exact h.fau _⟩
            · rw [e3, Option.bind_some, if_neg q]; rfl
            · rw [e4, Option.bind_some, if_neg q2]
          · by_cases hb : nI b = nI (nRid σ)
            · have hb2 : b = nRid σ := (nI_eq (by omega) (by omega)).mp hb
              subst hb2
              obtain ⟨st, e5, s1, s2⟩ := ts_loop h hk hL eL hab (nRid σ) 0 FU (up2 σ 0 5 0) (by omega) (FU_lt (by omega)) rfl (fun _ _ => rfl) (fun y hy => absurd hy (Nat.not_lt_zero y))
              have e6 := sq_loop h hk hL hab t7 (nI w) (nRid σ) 0 FU (by omega) (FU_lt (by omega)) rfl
              have hst : Rel st (up2 τ 0 0 0) := h0.fr (fun c c1 c2 c3 => s1 c c3) (fun c _ _ _ => rfl) ⟨rfl, rfl, rfl, rfl⟩ (by rw [s1 0 (by decide)]; exact h0.tr) (by rw [s1 0 (by decide)]; exact h0.fa)
              have m0 : (D_X7_cellsBarred τ (nI k) (nI la) (nI a) (nI (nRid σ)).toInt64).bind (fun y47 => if 0 ≤ y47.1 then if nI (nRid σ) = (y47.2 0 4) then D_X7_sit_140 y47.2 (nI k) (nI a) (nI (nRid σ)) (nI w) FU (0 : Int32) else (D_X7_refused y47.2 (-2 : Int32)).bind fun y59 => some (y59.1, y59.2) else some (y47.1, y47.2)) = D_X7_sit_140 τ (nI k) (nI a) (nI (nRid σ)) (nI w) FU (0 : Int32) := by
                rw [e4, Option.bind_some, if_pos (show (0 : Int32) ≤ 0 by decide), if_pos h.mrid.symm]
              cases ok : OKn σ (fun x => σ (18 + k) (a + x)) (nRid σ)
              · rw [ok] at e5 e6
                refine ⟨-2, st, up2 τ 0 0 0, (c0 _).mpr ?_, ?_, hst⟩
                · rw [e3, Option.bind_some, if_pos rfl, if_pos rfl]
                  unfold D_X6_takeSitting
                  rw [show D_X6_takeSitting_2 (14 + k) (nI a) FU (up2 σ 0 5 0) 0 = some (0, st) from e5]; rfl
                · refine m0.trans ?_
                  exact e6
              · rw [ok] at e5 e6
                have own := OKn_t ok
                have hS : Sit σ τ st (fun x => (σ (18 + k) (a + x)).toNatClampNeg) (60 * k + a) := by
                  refine ⟨fun c c1 c2 => (s1 c c2).trans (up2_ne c c1), fun x hx => ?_, by omega⟩
                  obtain ⟨w', hw', ew⟩ := OW_eq h hx
                  have ho := own x hx
                  rw [ew] at ho
                  obtain ⟨m, hm, em⟩ := ow_le (by omega) ho
                  have em : σ (18 + k) (a + x) = nI m := em
                  have ec : (σ (18 + k) (a + x)).toNatClampNeg = m := by rw [em]; exact nI_clamp (by omega)
                  refine ⟨show (σ (18 + k) (a + x)).toNatClampNeg < 32 by rw [ec]; omega, ?_, ?_⟩
                  · rw [s2 ok x hx]; show _ = nI (σ (18 + k) (a + x)).toNatClampNeg; rw [ec]; exact em
                  · rw [show 60 * k + a + x = 60 * k + (a + x) by omega, t7 _ (by omega)]; show _ = nI (σ (18 + k) (a + x)).toNatClampNeg; rw [ec]; exact em
                obtain ⟨r, g1, g2⟩ := sit_fin h hst hS hw
                refine ⟨r, st, up2 τ 0 0 0, (c0 _).mpr ?_, ?_, hst⟩
                · rw [e3, Option.bind_some, if_pos rfl, if_pos rfl]
                  unfold D_X6_takeSitting
                  rw [show D_X6_takeSitting_2 (14 + k) (nI a) FU (up2 σ 0 5 0) 0 = some (1, st) from e5, Option.bind_some, if_neg i10, g1]; rfl
                · refine m0.trans (Eq.trans e6 ?_)
                  show D_X7_sit_183 τ (nI k) (nI a) (nI w) = _
                  unfold D_X7_sit_183
                  rw [i60, g2]; rfl
            · refine ⟨-2, up2 σ 0 5 0, up2 τ 0 0 0, (c0 _).mpr ?_, ?_, h0⟩
              · rw [e3, Option.bind_some, if_pos rfl, if_neg hb]
              · rw [e4, Option.bind_some, if_pos (show (0 : Int32) ≤ 0 by decide), if_neg (show ¬ nI b = τ 0 4 by rw [h.mrid]; exact hb)]; rfl
    · rw [sitm_n _ _ _ _ hq (noSh_y τ hk)]
      unfold D_X7_sit_61
      rcases wic p2 2 (by decide) with hn | ⟨la, hla, rfl⟩
      · have e2 : D_X7_in τ p2.toInt64 0 2 = some 0 := inj_n hn rfl
        exact ⟨-2, up2 σ 0 5 0, up2 τ 0 0 0, by simp [D_X6_sit, isSh_y _ hk, isLa_n _ hn, i10], by simp [e2, D_X7_sit_80, D_X7_refused], h0⟩
      · have e2 : D_X7_in τ (nI la).toInt64 0 2 = some 1 := inj_y hla (by decide) rfl
        exact ⟨-2, up2 σ 0 5 0, up2 τ 0 0 0, by simp [D_X6_sit, isSh_y _ hk, isLa_y _ hla, i10, isQ_n _ hq], by simp [e2, i10, D_X7_sit_80, D_X7_refused], h0⟩
end PA
