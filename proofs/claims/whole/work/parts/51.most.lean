/-! MOST. (bt, b_ext, b_or, b_and, b_0, b_big, s_l, b_shl, b_sshr began as rows of the kit's BITS text) -/
def bt (x : Int32) (i : Nat) : Bool := x.toBitVec.getLsbD i
theorem b_ext {x y : Int32} (h : ∀ i, i < 32 → bt x i = bt y i) : x = y := Int32.toBitVec_inj.mp (BitVec.eq_of_getLsbD_eq (fun i hi => h i hi))
theorem b_or (x y : Int32) (i : Nat) : bt (x ||| y) i = (bt x i || bt y i) := by unfold bt; rw [Int32.toBitVec_or, BitVec.getLsbD_or]
theorem b_and (x y : Int32) (i : Nat) : bt (x &&& y) i = (bt x i && bt y i) := by unfold bt; rw [Int32.toBitVec_and, BitVec.getLsbD_and]
theorem b_0 (i : Nat) : bt 0 i = false := BitVec.getLsbD_zero
theorem s_l : ∀ n, n < 32 → ((nI n &&& 31).toBitVec.smod 32).toNat = n := by decide +kernel
theorem b_shl (n : Nat) (hn : n < 32) (x : Int32) {i : Nat} (hi : i < 32) : bt (x <<< (nI n &&& 31)) i = (decide (n ≤ i) && bt x (i - n)) := by
  unfold bt
  rw [Int32.toBitVec_shiftLeft]
  show (x.toBitVec <<< ((nI n &&& 31).toBitVec.smod 32).toNat).getLsbD i = _
  rw [s_l n hn, BitVec.getLsbD_shiftLeft]
  rcases Nat.lt_or_ge i n with h | h
  · simp [h, Nat.not_le.mpr h]
  · simp [hi, h, Nat.not_lt.mpr h]
theorem b_sshr (n : Nat) (hn : n < 32) (x : Int32) {i : Nat} (hi : i < 32) : bt (x >>> (nI n &&& 31)) i = if n + i < 32 then bt x (n + i) else bt x 31 := by
  unfold bt
  rw [Int32.toBitVec_shiftRight]
  show (x.toBitVec.sshiftRight ((nI n &&& 31).toBitVec.smod 32).toNat).getLsbD i = _
  rw [s_l n hn, BitVec.getLsbD_sshiftRight, BitVec.msb_eq_getLsbD_last]
  simp [hi]
theorem b_1 : ∀ i, i < 32 → bt 1 i = decide (i = 0) := by decide +kernel
theorem bt1_get {n : Nat} (hn : n < 32) (x : Int32) : bt1 x n = bt x n := by
  have h0 := b_sshr n hn x (i := 0) (by decide)
  rw [Nat.add_zero, if_pos hn] at h0
  unfold bt1
  cases hb : bt x n
  · rw [hb] at h0
    have e : (x >>> (nI n &&& 31)) &&& 1 = 0 := b_ext fun i hi => by
      rw [b_and, b_1 i hi, b_0]
      by_cases hi0 : i = 0
      · rw [hi0, h0]; rfl
      · simp [hi0]
    rw [e]; decide
  · rw [hb] at h0
    have e : (x >>> (nI n &&& 31)) &&& 1 = 1 := b_ext fun i hi => by
      rw [b_and, b_1 i hi]
      by_cases hi0 : i = 0
      · rw [hi0, h0]; rfl
      · simp [hi0]
    rw [e]; decide
theorem SLf_bt (H : Nat → Bool) : ∀ n, n ≤ 32 → ∀ f, f < 32 → bt (SLf H n) f = (decide (f < n) && H f) := by
  intro n
  induction n with
  | zero => intro _ f _; simp [SLf, b_0]
  | succ n ih =>
    intro hn f hf
    rw [SLf_s]
    have e := ih (by omega) f hf
    cases hH : H n
    · simp only [Bool.false_eq_true, if_false]
      rw [e]
      by_cases hfn : f = n
      · rw [hfn, hH]; simp
      · by_cases hl : f < n
        · simp [hl, show f < n + 1 by omega]
        · simp [hl, show ¬ f < n + 1 by omega]
    · simp only [if_true]
      rw [b_or, e, b_shl n (by omega) 1 hf]
      by_cases hfn : f = n
      · rw [hfn, hH, Nat.sub_self, b_1 0 (by decide)]; simp
      · by_cases hl : f < n
        · simp [hl, show f < n + 1 by omega, show ¬ n ≤ f by omega]
        · rw [b_1 (f - n) (by omega)]
          simp [hl, show ¬ f < n + 1 by omega, show ¬ f - n = 0 by omega]
section PC
variable {σ τ : St}
/-- by that set one is right -/
def RT (σ : St) (a n : Nat) : Bool := ow (OW σ a) (nI n) && decide (AG σ a (nI n) = σ (5 + a) 4)
theorem RT_own (h : Rel σ τ) {a : Nat} (ha : a < nRid σ) {w : Nat} (hw : w < 32) (ew : OW σ a = nI w) {n : Nat} (hn : n < 32) (hwn : w < n) : RT σ a n = false := by
  unfold RT
  rw [MS_own h ha hw ew hn hwn]; rfl
theorem sr_loop (h : Rel σ τ) {a : Nat} (ha : a < nRid σ) {w : Nat} (hw : w < 32) (ew : OW σ a = nI w) : ∀ d n fuel, n + d = w + 1 → d < fuel → D_X2_setsToBeRight_4 σ (5 + a) fuel (SLf (RT σ a) n) (nI n) = some (SLf (RT σ a) (w + 1)) := by
  intro d
  induction d with
  | zero =>
    intro n fuel hn hf
    obtain ⟨k, rfl⟩ : ∃ k, fuel = k + 1 := ⟨fuel - 1, by omega⟩
    have : n = w + 1 := by omega
    subst this
    show D_X2_setsToBeRight_4b _ _ _ _ _ = _
    unfold D_X2_setsToBeRight_4b
    rw [own_eq, Option.bind_some]
    show (if OW σ a < _ then _ else _) = _
    rw [ew, if_pos ((own_lt hw (by omega)).mpr (by omega))]
  | succ d ih =>
    intro n fuel hn hf
    obtain ⟨k, rfl⟩ : ∃ k, fuel = k + 1 := ⟨fuel - 1, by omega⟩
    have e := ih (n + 1) k (by omega) (by omega)
    rw [nI_succ, SLf_s] at e
    show D_X2_setsToBeRight_4b _ _ _ _ _ = _
    unfold D_X2_setsToBeRight_4b D_X2_setsToBeRight_35 D_X2_isRight
    rw [own_eq, Option.bind_some]
    show (if OW σ a < _ then _ else _) = _
    rw [ew, if_neg (fun q => by have := (own_lt hw (by omega)).mp q; omega), ons_eq, Option.bind_some, yo_eq h, Option.bind_some]
    cases ho : ow (OW σ a) (nI n)
    · simp only [RT, ho, Bool.false_and, Bool.false_eq_true, if_false] at e
      simpa using e
    · by_cases hv : AG σ a (nI n) = σ (5 + a) 4
      · simp only [RT, ho, hv, decide_true, Bool.true_and, if_true] at e
        simp only [if_true, i10, if_false, hv, Option.bind_some]
        exact e
      · simp only [RT, ho, hv, decide_false, Bool.and_false, Bool.false_eq_true, if_false] at e
        simp only [if_true, i10, if_false, hv, Option.bind_some]
        exact e
/-- a class state whose row 4 holds the right sets -/
def RS (σ st : St) : Prop := (∀ c, c ≠ 4 → st c = σ c) ∧ ∀ a, a < nRid σ → ∀ f, f < 32 → bt1 (st 4 a) f = RT σ a f
theorem mr_loop (h : Rel σ τ) : ∀ d a fuel (st : St), a + d = nRid σ → d < fuel → (∀ c, c ≠ 4 → st c = σ c) → (∀ b, b < a → ∀ f, f < 32 → bt1 (st 4 b) f = RT σ b f) → ∃ st', D_X2_mostRight_2 fuel st (nI a) = D_X2_mostRight_32 st' ∧ RS σ st' := by
  have h4 := h.rid4
  intro d
  induction d with
  | zero =>
    intro a fuel st hx hf h1 h2
    obtain ⟨f, rfl⟩ : ∃ f, fuel = f + 1 := ⟨fuel - 1, by omega⟩
    have : a = nRid σ := by omega
    subst this
    refine ⟨st, ?_, h1, h2⟩
    show D_X2_mostRight_2b _ _ _ = _
    unfold D_X2_mostRight_2b
    rw [h1 1 (by decide), h.rid, if_pos (nI_le (Nat.le_refl _) (by omega))]
  | succ d ih =>
    intro a fuel st hx hf h1 h2
    obtain ⟨f, rfl⟩ : ∃ f, fuel = f + 1 := ⟨fuel - 1, by omega⟩
    have hst : Rel st τ := h.fr (fun c c1 c2 c3 => h1 c c2) (fun c _ _ _ => rfl) ⟨rfl, rfl, rfl, rfl⟩ (by rw [h1 0 (by decide)]; exact h.tr) (by rw [h1 0 (by decide)]; exact h.fa)
    have eR : nRid st = nRid σ := nRid_of (by rw [h1 1 (by decide)])
    have ha : a < nRid st := by omega
    obtain ⟨w, hw, ew⟩ := OW_eq hst ha
    have eRT : ∀ n, RT st a n = RT σ a n := fun n => by
      unfold RT
      rw [OW_cong (h1 (5 + a) (by omega)), AG_cong (h1 1 (by decide)) (h1 2 (by decide)) (h1 (5 + a) (by omega)), h1 (5 + a) (by omega)]
    have e : D_X2_setsToBeRight st (5 + a) = some (SLf (RT st a) (w + 1)) := sr_loop hst ha hw ew (w + 1) 0 FU (by omega) (FU_lt (by omega))
    obtain ⟨st', q1, q2⟩ := ih (a + 1) f (up2 st 4 a (SLf (RT st a) (w + 1))) (by omega) (by omega) (fun c hc => (up2_ne c hc).trans (h1 c hc)) (fun b hb f hf => by
      by_cases hba : b = a
      · rw [hba, up2_s, bt1_get hf, SLf_bt _ _ (by omega) f hf, ← eRT]
        by_cases hfw : f < w + 1
        · simp [hfw]
        · rw [RT_own hst ha hw ew hf (by omega)]; simp
      · rw [up2_j hba]; exact h2 b (by omega) f hf)
    refine ⟨st', ?_, q2⟩
    show D_X2_mostRight_2b _ _ _ = _
    unfold D_X2_mostRight_2b
    rw [h1 1 (by decide), h.rid, if_neg (nI_ge (by omega) (by omega)), inb_nI (show a < 4 by omega) (by decide), gd_true, nI_clamp (by omega), e, Option.bind_some, gd_true, ← nI_succ]
    exact q1
/-- can all of who from rider rid - k on be right beside the load L -/
def CA (σ : St) (who : Nat) : Nat → Nat → Bool
  | 0, _ => true
  | k + 1, L => if who.testBit (nRid σ - (k + 1)) then (List.range 32).any (fun f => RT σ (nRid σ - (k + 1)) f && (FO (L + ld f) (nSea σ) (nSec σ) == none && CA σ who k (L + ld f))) else CA σ who k L
theorem CA_s (σ : St) (who k L : Nat) : CA σ who (k + 1) L = if who.testBit (nRid σ - (k + 1)) then (List.range 32).any (fun f => RT σ (nRid σ - (k + 1)) f && (FO (L + ld f) (nSea σ) (nSec σ) == none && CA σ who k (L + ld f))) else CA σ who k L := rfl
theorem any_iff {P : Nat → Bool} {n : Nat} : (List.range n).any P = true ↔ ∃ f, f < n ∧ P f = true := by simp [List.any_eq_true]
theorem wb_fin : ∀ w : Fin 16, ∀ a : Fin 4, ((nI w.val >>> (nI a.val &&& 31)) &&& 1) = (if w.val.testBit a.val then 1 else 0) := by decide +kernel
theorem ca_loop (h : Rel σ τ) {st : St} (hs : RS σ st) {who k L : Nat} (hk : k + 1 ≤ nRid σ) (hL : L + 69905 * (k + 1) < 2 ^ 31) (rf : Int32 → Int32 → Int32 → Option Int32) (hrf : ∀ L', L' + 69905 * k < 2 ^ 31 → rf (nI who) (nI (nRid σ - k)) (nI L') = some (if CA σ who k L' then 1 else 0)) : ∀ d f fuel, f + d = 32 → d < fuel → (∀ g, g < f → (RT σ (nRid σ - (k + 1)) g && (FO (L + ld g) (nSea σ) (nSec σ) == none && CA σ who k (L + ld g))) = false) → D_X2_canAllBeRight_31 rf st (nI who) (nI (nRid σ - (k + 1))) (nI L) fuel (nI f) = some (if (List.range 32).any (fun f => RT σ (nRid σ - (k + 1)) f && (FO (L + ld f) (nSea σ) (nSec σ) == none && CA σ who k (L + ld f))) then 1 else 0) := by
  have h4 := h.rid4
  have h5 := h.sec5
  obtain ⟨s1, s2⟩ := hs
  have hst : Rel st τ := h.fr (fun c c1 c2 c3 => s1 c c2) (fun c _ _ _ => rfl) ⟨rfl, rfl, rfl, rfl⟩ (by rw [s1 0 (by decide)]; exact h.tr) (by rw [s1 0 (by decide)]; exact h.fa)
  obtain ⟨a, ea⟩ : ∃ a, a = nRid σ - (k + 1) := ⟨_, rfl⟩
  have ha : a < nRid σ := by omega
  rw [← ea]
  have e1 : nRid σ - k = a + 1 := by omega
  rw [e1] at hrf
  obtain ⟨w, hw, ew⟩ := OW_eq h ha
  have none_of : (∀ g, g < w + 1 → (RT σ a g && (FO (L + ld g) (nSea σ) (nSec σ) == none && CA σ who k (L + ld g))) = false) → (List.range 32).any (fun f => RT σ a f && (FO (L + ld f) (nSea σ) (nSec σ) == none && CA σ who k (L + ld f))) = false := by
    intro hall
    cases hb : (List.range 32).any (fun f => RT σ a f && (FO (L + ld f) (nSea σ) (nSec σ) == none && CA σ who k (L + ld f)))
    · rfl
    · obtain ⟨g, hg, e⟩ := any_iff.mp hb
      by_cases hgw : g < w + 1
      · rw [hall g hgw] at e; cases e
      · rw [RT_own h ha hw ew hg (by omega)] at e; cases e
  intro d
  induction d with
  | zero =>
    intro f fuel hf hfu hall
    obtain ⟨m, rfl⟩ : ∃ m, fuel = m + 1 := ⟨fuel - 1, by omega⟩
    have : f = 32 := by omega
    subst this
    rw [none_of (fun g hg => hall g (by omega))]
    show D_X2_canAllBeRight_31b _ _ _ _ _ _ _ = _
    unfold D_X2_canAllBeRight_31b
    rw [inb_nI (show a < 4 by omega) (by decide), gd_true, nI_clamp (by omega), own_eq, Option.bind_some]
    show (if OW st a < _ then _ else _) = _
    rw [OW_cong (s1 (5 + a) (by omega)), ew, if_pos ((own_lt hw (by omega)).mpr (by omega))]; rfl
  | succ d ih =>
    intro f fuel hf hfu hall
    obtain ⟨m, rfl⟩ : ∃ m, fuel = m + 1 := ⟨fuel - 1, by omega⟩
    have l1 := ld_lt (f := f)
    show D_X2_canAllBeRight_31b _ _ _ _ _ _ _ = _
    unfold D_X2_canAllBeRight_31b D_X2_canAllBeRight_95
    rw [inb_nI (show a < 4 by omega) (by decide), gd_true, gd_true, nI_clamp (by omega), own_eq, Option.bind_some]
    show (if OW st a < _ then _ else _) = _
    rw [OW_cong (s1 (5 + a) (by omega)), ew]
    by_cases hfw : w < f
    · rw [if_pos ((own_lt hw (by omega)).mpr hfw), none_of (fun g hg => hall g (by omega))]; rfl
    · rw [if_neg (fun q => hfw ((own_lt hw (by omega)).mp q))]
      have eb : (((st 4 a >>> (nI f &&& 31)) &&& 1) = 1) ↔ RT σ a f = true := by
        rw [← s2 a ha f (by omega)]
        unfold bt1
        exact (decide_eq_true_iff).symm
      have next : (RT σ a f && (FO (L + ld f) (nSea σ) (nSec σ) == none && CA σ who k (L + ld f))) = false → D_X2_canAllBeRight_31 rf st (nI who) (nI a) (nI L) m (nI f + 1) = some (if (List.range 32).any (fun f => RT σ a f && (FO (L + ld f) (nSea σ) (nSec σ) == none && CA σ who k (L + ld f))) then 1 else 0) := by
        intro hz
        rw [← nI_succ]
        exact ih (f + 1) m (by omega) (by omega) (fun g hg => by
          by_cases hgf : g = f
          · rw [hgf]; exact hz
          · exact hall g (by omega))
      by_cases hr : RT σ a f = true
      · rw [if_pos (eb.mpr hr), lo_eq st (show f < 32 by omega), Option.bind_some, nI_add, fo_eq hst (show L + ld f < 2 ^ 31 by omega), nSea_of (σ' := st) (σ := σ) (by rw [s1 1 (by decide)]), nSec_of (σ' := st) (σ := σ) (by rw [s1 1 (by decide)]), Option.bind_some]
        have q := enc_n9 (x := FO (L + ld f) (nSea σ) (nSec σ)) (fun n hn => by have := FO_lt hn; omega)
        cases hF : FO (L + ld f) (nSea σ) (nSec σ) with
        | some s =>
          rw [hF] at q
          rw [if_neg (fun e => by have := q.mp e; cases this)]
          exact next (by rw [hF]; simp)
        | none =>
          rw [if_pos (show enc none = -9 from rfl), show nI a + 1 = nI (a + 1) from (nI_succ a).symm, hrf _ (by omega), Option.bind_some]
          cases hc : CA σ who k (L + ld f)
          · rw [if_pos (by decide)]
            exact next (by rw [hc]; simp)
          · rw [if_neg (by decide)]
            have : (List.range 32).any (fun f => RT σ a f && (FO (L + ld f) (nSea σ) (nSec σ) == none && CA σ who k (L + ld f))) = true := any_iff.mpr ⟨f, by omega, by rw [hr, hF, hc]; rfl⟩
            rw [this]; rfl
      · rw [if_neg (fun e => hr (eb.mp e))]
        exact next (by simp [hr])
theorem ca_eq (h : Rel σ τ) {st : St} (hs : RS σ st) {who : Nat} (hwho : who < 16) : ∀ k, k ≤ nRid σ → ∀ n L, k < n → L + 69905 * k < 2 ^ 31 → D_X2_canAllBeRight n st (nI who) (nI (nRid σ - k)) (nI L) = some (if CA σ who k L then 1 else 0) := by
  have h4 := h.rid4
  intro k
  induction k with
  | zero =>
    intro _ n L hn hL
    obtain ⟨m, rfl⟩ : ∃ m, n = m + 1 := ⟨n - 1, by omega⟩
    show D_X2_canAllBeRight_e _ _ _ _ _ = _
    unfold D_X2_canAllBeRight_e
    rw [hs.1 1 (by decide), h.rid, if_neg (nI_nlt (by omega) (by omega))]; rfl
  | succ k ih =>
    intro hk n L hn hL
    obtain ⟨m, rfl⟩ : ∃ m, n = m + 1 := ⟨n - 1, by omega⟩
    show D_X2_canAllBeRight_e _ _ _ _ _ = _
    unfold D_X2_canAllBeRight_e
    rw [hs.1 1 (by decide), h.rid, if_pos (nI_lt (by omega) (by omega)), wb_fin ⟨who, hwho⟩ ⟨nRid σ - (k + 1), by omega⟩, CA_s]
    have e1 : nI (nRid σ - (k + 1)) + 1 = nI (nRid σ - k) := by rw [← nI_succ]; congr 1; omega
    cases hb : who.testBit (nRid σ - (k + 1))
    · simp only [hb, Bool.false_eq_true, if_false, if_true]
      rw [e1, ih (by omega) m L (by omega) (by omega)]
      cases CA σ who k L <;> rfl
    · simp only [hb, if_true, i10, if_false]
      exact ca_loop h hs hk hL (D_X2_canAllBeRight m st) (fun L' hL' => ih (by omega) m L' (by omega) hL') 32 0 FU rfl (FU_lt (by decide)) (fun g hg => absurd hg (Nat.not_lt_zero g))
end PC
