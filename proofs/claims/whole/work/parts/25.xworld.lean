/-! PURE: the class, its worlds -/
theorem lp_rel {α β : Type} {body : α → Option (α ⊕ β)} (I : Nat → α → Prop) (Q : β → Prop) : ∀ (n m : Nat) (a : α), I 0 a → (∀ i a, i < n → I i a → ∃ a', body a = some (.inl a') ∧ I (i + 1) a') → (∀ a, I n a → ∃ b, body a = some (.inr b) ∧ Q b) → n < m → ∃ b, lp body m a = some b ∧ Q b := by
  suffices h : ∀ (n m j : Nat) (a : α), I j a → (∀ i a, j ≤ i → i < j + n → I i a → ∃ a', body a = some (.inl a') ∧ I (i + 1) a') → (∀ a, I (j + n) a → ∃ b, body a = some (.inr b) ∧ Q b) → n < m → ∃ b, lp body m a = some b ∧ Q b from fun n m a h0 h1 h2 h3 => h n m 0 a h0 (fun i a _ hi => h1 i a (by omega)) (by rw [Nat.zero_add]; exact h2) h3
  intro n
  induction n with
  | zero =>
    intro m j a h0 h1 h2 h3
    cases m with
    | zero => omega
    | succ m =>
      obtain ⟨b, hb, hq⟩ := h2 a h0
      refine ⟨b, ?_, hq⟩
      unfold lp
      rw [hb]
  | succ n ih =>
    intro m j a h0 h1 h2 h3
    cases m with
    | zero => omega
    | succ m =>
      obtain ⟨a', ha, hi⟩ := h1 j a (Nat.le_refl _) (by omega) h0
      obtain ⟨b, hb, hq⟩ := ih m (j + 1) a' hi (fun i a h4 h5 => h1 i a (by omega) (by omega)) (by rw [show j + 1 + n = j + (n + 1) by omega]; exact h2) (by omega)
      refine ⟨b, ?_, hq⟩
      unfold lp
      rw [ha]
      exact hb
def XH (σ : Sg) (w : Nat) (v : Ro) : Prop := σ.1 1 w 0 0 = iI (v 2) ∧ σ.1 1 w 0 1 = iI (v 0) ∧ σ.1 1 w 0 2 = iI (v 1) ∧ ∀ i, i < 7 → σ.1 12 w 0 i = iI (v (3 + i))
/-- a world of the class -/
def XW (σ : Sg) (w : Nat) (v : Ro) : Prop := XH σ w v ∧ ∀ c, c < mny v → XR σ w c (rug v c)
def PW (w : Nat) : Nat → Nat → Nat → Prop := fun t i _ => (t = 1 ∨ t = 2 ∨ t = 12 ∨ t = 13 ∨ t = 14) ∧ i = w
theorem XH.ag {P : Nat → Nat → Nat → Prop} {σ σ' : Sg} {w : Nat} {v : Ro} (h : XH σ w v) (ha : Ag P σ σ') (h1 : ¬ P 1 w 0) (h2 : ¬ P 12 w 0) : XH σ' w v := by
  unfold XH
  rw [(ha 1 w 0 h1).1, (ha 12 w 0 h2).1]
  exact h
theorem XW.ag {P : Nat → Nat → Nat → Prop} {σ σ' : Sg} {w : Nat} {v : Ro} (h : XW σ w v) (ha : Ag P σ σ') (h1 : ¬ P 1 w 0) (h2 : ¬ P 12 w 0) (h3 : ∀ c, ¬ P 2 w c) : XW σ' w v := ⟨h.1.ag ha h1 h2, fun c hc => (h.2 c hc).ag ha (h3 c)⟩
section XWORLD
variable {σ : Sg} {w : Nat} {v : Ro}
theorem x_mod {a : Int} (ha : 0 ≤ a ∧ a < 2147483648) (σ : Sg) : f_Math_floorMod_7cf53 (iI a) (iI 7) σ = some (iI (a % 7), σ) := by
  have hx : iI 0 ≤ iI a ^^^ iI 7 := by
    have h7 : (iI 7).toBitVec.msb = false := by decide
    have h8 : (iI a).toBitVec.msb = false := by
      have h1 : ¬ iI a < iI 0 := by rw [iI_lt (by omega) (by omega)]; omega
      have h2 : ((iI a).toBitVec.slt (iI 0).toBitVec) = false := by
        cases hb : (iI a).toBitVec.slt (iI 0).toBitVec with
        | false => rfl
        | true => exact absurd hb h1
      rw [show (iI 0).toBitVec = 0#32 from rfl, BitVec.slt_zero_eq_msb] at h2
      exact h2
    have h9 : ¬ (iI a ^^^ iI 7) < iI 0 := by
      intro h1
      have h2 : ((iI a ^^^ iI 7).toBitVec.slt (iI 0).toBitVec) = true := h1
      rw [show (iI 0).toBitVec = 0#32 from rfl, BitVec.slt_zero_eq_msb, Int32.toBitVec_xor, BitVec.msb_xor, h7, h8] at h2
      exact absurd h2 (by decide)
    exact Int32.not_lt.mp h9
  unfold f_Math_floorMod_7cf53
  rw [if_neg (by decide), if_pos hx, iI_div (by omega) (by omega), iI_mul, iI_sub, show a - a / 7 * 7 = a % 7 by omega]
theorem x_wet (h : XH σ w v) (hg : GS v) {d : Nat} (hd : d < 1000) : f_World_wetAhead w (iI d) σ = some (iI (wetAt v d), σ) := by
  obtain ⟨g0, -⟩ := id hg
  unfold f_World_wetAhead wetAt
  rw [h.2.1, iI_add, x_mod (by omega), b2s, show (v 0 + (d : Int)) % 7 = ((((v 0).toNat + d) % 7 : Nat) : Int) by omega, rd_N (Nat.mod_lt _ (by decide)) (by decide), obs, h.2.2.2 _ (Nat.mod_lt _ (by decide))]
theorem wetAt_01 (hg : GS v) (d : Nat) : wetAt v d = 0 ∨ wetAt v d = 1 := hg.2.2.2.1 _ (Nat.mod_lt _ (by decide))
theorem wetAt_0 (v : Ro) : wetAt v 0 = wet v := rfl
theorem x_piles (h : XW σ w v) (hg : GS v) : f_World_allPiles w σ = some (iI (sumN v 3 (mny v)), σ) := by
  have hm := mny_le hg
  have he := mny_eq hg
  have hl : lp (fun a => b_World_allPiles_4 w a.1 a.2.1 a.2.2) FU (iI 0, iI 0, σ) = some (iI (sumN v 3 (mny v)), σ) := by
    refine lp_run (fun i => (iI (sumN v 3 i), iI (i : Int), σ)) (iI (sumN v 3 (mny v)), σ) (mny v) FU ?_ ?_ (Nat.lt_of_le_of_lt hm (by decide))
    · intro k hk
      show b_World_allPiles_4 w (iI (sumN v 3 k)) (iI (k : Int)) σ = some (.inl (iI (sumN v 3 (k + 1)), iI ((k + 1 : Nat) : Int), σ))
      unfold b_World_allPiles_4
      rw [h.1.1, if_neg (by rw [iI_le (by omega) (by omega)]; omega), rd_N (by omega) (by decide), obs, (h.2 k hk).2.2.2.1, iI_add, iI_add]
      rfl
    · show b_World_allPiles_4 w (iI (sumN v 3 (mny v))) (iI (mny v : Int)) σ = some (.inr (iI (sumN v 3 (mny v)), σ))
      unfold b_World_allPiles_4
      rw [h.1.1, if_pos (by rw [iI_le (by omega) (by omega)]; omega)]
  unfold f_World_allPiles
  rw [hl, obs]
theorem x_moths (h : XW σ w v) (hg : GS v) : f_World_allMoths w σ = some (iI (sumN v 4 (mny v)), σ) := by
  have hm := mny_le hg
  have he := mny_eq hg
  have hl : lp (fun a => b_World_allMoths_4 w a.1 a.2.1 a.2.2) FU (iI 0, iI 0, σ) = some (iI (sumN v 4 (mny v)), σ) := by
    refine lp_run (fun i => (iI (sumN v 4 i), iI (i : Int), σ)) (iI (sumN v 4 (mny v)), σ) (mny v) FU ?_ ?_ (Nat.lt_of_le_of_lt hm (by decide))
    · intro k hk
      show b_World_allMoths_4 w (iI (sumN v 4 k)) (iI (k : Int)) σ = some (.inl (iI (sumN v 4 (k + 1)), iI ((k + 1 : Nat) : Int), σ))
      unfold b_World_allMoths_4
      rw [h.1.1, if_neg (by rw [iI_le (by omega) (by omega)]; omega), rd_N (by omega) (by decide), obs, (h.2 k hk).2.2.2.2.1, iI_add, iI_add]
      rfl
    · show b_World_allMoths_4 w (iI (sumN v 4 (mny v))) (iI (mny v : Int)) σ = some (.inr (iI (sumN v 4 (mny v)), σ))
      unfold b_World_allMoths_4
      rw [h.1.1, if_pos (by rw [iI_le (by omega) (by omega)]; omega)]
  unfold f_World_allMoths
  rw [hl, obs]
/-- of those that are out no two were rolled out at once -/
def UQ (v : Ro) : Prop := ∀ a b : Nat, a < mny v → b < mny v → 0 ≤ rug v a 5 → 0 ≤ rug v b 5 → rug v a 6 = rug v b 6 → a = b
/-- what lies on top lies there -/
theorem topN_out (s : Ro) (y : Int) : ∀ k : Nat, 0 ≤ topN s y k → 0 ≤ rug s (topN s y k).toNat 5 := by
  intro k
  induction k with
  | zero => intro h; exact absurd h (show ¬ (0 : Int) ≤ -1 by decide)
  | succ k ih =>
    rw [topN_succ]
    split
    · rename_i hq
      split
      · intro _
        rw [show ((k : Int)).toNat = k by omega]
        exact hq.1
      · split
        · exact ih
        · intro _
          rw [show ((k : Int)).toNat = k by omega]
          exact hq.1
    · exact ih
theorem x_top (h : XW σ w v) (hg : GS v) (hu : UQ v) {y : Int} (hy : 0 ≤ y ∧ y ≤ 39) : f_World_topAt w (iI y) σ = some (iI (top v y), σ) := by
  have hm := mny_le hg
  have he := mny_eq hg
  have hl : lp (fun a => b_World_topAt_4 w (iI y) a.1 a.2.1 a.2.2) FU (iI (-1), iI 0, σ) = some (iI (top v y), σ) := by
    refine lp_run (fun i => (iI (topN v y i), iI (i : Int), σ)) (iI (top v y), σ) (mny v) FU ?_ ?_ (Nat.lt_of_le_of_lt hm (by decide))
    · intro k hk
      have ht := topN_rg v y k
      have hR := h.2 k hk
      obtain ⟨h0, h1, h2, h3, h4, h5, h6⟩ := hg.rg hk
      show b_World_topAt_4 w (iI y) (iI (topN v y k)) (iI (k : Int)) σ = some (.inl (iI (topN v y (k + 1)), iI ((k + 1 : Nat) : Int), σ))
      unfold b_World_topAt_4
      rw [h.1.1, if_neg (by rw [iI_le (by omega) (by omega)]; omega), rd_N (by omega) (by decide), obs, x_covers hR (hg.rg hk) hy, b2s, topN_succ]
      by_cases hq : 0 ≤ rug v k 5 ∧ rug v k 5 ≤ y ∧ y < rug v k 5 + reach (rug v k)
      · rw [if_pos hq, if_neg (by decide), if_pos hq]
        by_cases h7 : topN v y k < 0
        · simp (disch := omega) only [iI_lt, if_pos h7, iI_add]
          rfl
        · have e1 : topN v y k = (((topN v y k).toNat : Nat) : Int) := by omega
          have ho := topN_out v y k (by omega)
          have htk : (topN v y k).toNat < mny v := by omega
          have hT := h.2 (topN v y k).toNat htk
          obtain ⟨g0, g1, g2, g3, g4, g5, g6⟩ := hg.rg (k := (topN v y k).toNat) htk
          have hne : rug v k 6 ≠ rug v (topN v y k).toNat 6 := fun z => by
            have := hu k _ hk htk hq.1 ho z
            omega
          have hrd : rd (iI (topN v y k)) 8 = some (topN v y k).toNat := by
            rw [rd_iI (by omega) (by omega) (by decide)]
          rw [if_neg (show ¬ iI (topN v y k) < iI 0 by rw [iI_lt (by omega) (by omega)]; exact h7), hrd, obs, obs, if_neg h7, hR.2.2.2.2.2.2 hq.1, hT.2.2.2.2.2.2 ho]
          simp (disch := omega) only [iI_le, iI_add]
          by_cases h8 : rug v k 6 < rug v (topN v y k).toNat 6
          · rw [if_pos h8, if_pos (by omega)]
            rfl
          · rw [if_neg h8, if_neg (by omega)]
            rfl
      · rw [if_neg hq, if_pos (by decide), if_neg hq, iI_add]
        rfl
    · show b_World_topAt_4 w (iI y) (iI (topN v y (mny v))) (iI (mny v : Int)) σ = some (.inr (iI (top v y), σ))
      unfold b_World_topAt_4
      rw [h.1.1, if_pos (by rw [iI_le (by omega) (by omega)]; omega)]
      rfl
  unfold f_World_topAt
  rw [hl, obs]
theorem x_owner (h : XW σ w v) (hg : GS v) (hu : UQ v) {y : Int} (hy : 0 ≤ y ∧ y ≤ 39) : f_World_ownerAt w (iI y) σ = some (iI (whose v y), σ) := by
  have hm := mny_le hg
  have ht := top_rg hg y
  unfold f_World_ownerAt whose
  rw [x_top h hg hu hy, b2s]
  by_cases h7 : top v y < 0
  · rw [if_pos h7, if_neg (by rw [iI_le (by omega) (by omega)]; omega)]
  · rw [if_neg h7, if_pos (by rw [iI_le (by omega) (by omega)]; omega), rd_iI (by omega) (by omega) (by decide), obs, (h.2 _ (by omega)).2.1]
theorem x_day (h : XW σ w v) (hg : GS v) (x y : Int32) : ∃ σ', lp (fun a => b_World_passDays_16 w x y (iI (wet v)) a.1 a.2) FU (iI 0, σ) = some σ' ∧ XW σ' w (ageN v (mny v)) ∧ Ag (PW w) σ σ' := by
  have hm := mny_le hg
  have he := mny_eq hg
  refine lp_rel (fun i a => a.1 = iI (i : Int) ∧ XH a.2 w v ∧ (∀ c, c < mny v → XR a.2 w c (rug (ageN v i) c)) ∧ Ag (PW w) σ a.2) (fun b => XW b w (ageN v (mny v)) ∧ Ag (PW w) σ b) (mny v) FU (iI 0, σ) ⟨rfl, h.1, h.2, Ag.rf⟩ ?_ ?_ (Nat.lt_of_le_of_lt hm (by decide))
  · intro k a hk hI
    obtain ⟨a1, a2⟩ := a
    obtain ⟨rfl, i2, i3, i4⟩ := hI
    have hgk := (hg.ageN k).rg (k := k) (by rw [mny_hd (ageN_hd v k)]; exact hk)
    obtain ⟨σ', q1, q2, q3⟩ := x_passDay (i3 k hk) hgk (wet_01 hg)
    refine ⟨(iI ((k + 1 : Nat) : Int), σ'), ?_, rfl, ?_, ?_, ?_⟩
    · show b_World_passDays_16 w x y (iI (wet v)) (iI (k : Int)) a2 = _
      unfold b_World_passDays_16
      rw [i2.1, if_neg (by rw [iI_le (by omega) (by omega)]; omega), rd_N (by omega) (by decide), obs, q1, b2s, iI_add]
      rfl
    · exact i2.ag q3 (fun z => absurd z.1 (by decide)) (fun z => absurd z.1 (by decide))
    · intro c hc
      by_cases e : c = k
      · subst e
        refine q2.cong (fun f hf => ?_)
        rw [ageN_succ]
        unfold age
        rw [setRug_at hf, wet_hd (ageN_hd v c)]
      · refine ((i3 c hc).ag q3 (fun z => e z.2.2)).cong (fun f hf => ?_)
        rw [ageN_succ]
        exact setRug_ne e hf
    · exact i4.tr (q3.mono (fun t i j z => ⟨by rw [z.1]; decide, z.2.1⟩))
  · intro a hI
    obtain ⟨a1, a2⟩ := a
    obtain ⟨rfl, i2, i3, i4⟩ := hI
    refine ⟨a2, ?_, ⟨?_, ?_⟩, i4⟩
    · show b_World_passDays_16 w x y (iI (wet v)) (iI (mny v : Int)) a2 = _
      unfold b_World_passDays_16
      rw [i2.1, if_pos (by rw [iI_le (by omega) (by omega)]; omega)]
    · unfold XH
      rw [ageN_hd v _ 2 (by decide), ageN_hd v _ 0 (by decide), ageN_hd v _ 1 (by decide)]
      exact ⟨i2.1, i2.2.1, i2.2.2.1, fun i hi => by rw [ageN_hd v _ _ (by omega)]; exact i2.2.2.2 i hi⟩
    · intro c hc
      rw [mny_hd (ageN_hd v _)] at hc
      exact i3 c hc
theorem x_days (h : XW σ w v) (hg : GS v) {n : Nat} (hn : v 0 + n ≤ 20000) (hn' : n < 1000) : ∃ σ', f_World_passDays w (iI n) σ = some ((), σ') ∧ XW σ' w (goesN v n) ∧ Ag (PW w) σ σ' := by
  have hl : ∃ σ', lp (fun a => b_World_passDays_2 w (iI n) a.1 a.2) FU (iI 0, σ) = some σ' ∧ (XW σ' w (goesN v n) ∧ Ag (PW w) σ σ') := by
    refine lp_rel (fun i a => a.1 = iI (i : Int) ∧ XW a.2 w (goesN v i) ∧ Ag (PW w) σ a.2) (fun b => XW b w (goesN v n) ∧ Ag (PW w) σ b) n FU (iI 0, σ) ⟨rfl, h, Ag.rf⟩ ?_ ?_ (Nat.lt_of_lt_of_le hn' (by decide))
    · intro k a hk hI
      obtain ⟨a1, a2⟩ := a
      obtain ⟨rfl, i2, i3⟩ := hI
      have hgk := hg.goesN k (by omega)
      have i2 : XW a2 w (goesN v k) := i2
      have i3 : Ag (PW w) σ a2 := i3
      have hwt : f_World_wetAhead w (iI 0) a2 = some (iI (wet (goesN v k)), a2) := x_wet i2.1 hgk (d := 0) (by decide)
      obtain ⟨σ', q1, q2, q3⟩ := x_day i2 hgk (iI n) (iI (k : Int))
      refine ⟨(iI ((k + 1 : Nat) : Int), upI σ' 1 w 0 1 (σ'.1 1 w 0 1 + iI 1)), ?_, rfl, ⟨?_, ?_⟩, ?_⟩
      · show b_World_passDays_2 w (iI n) (iI (k : Int)) a2 = _
        unfold b_World_passDays_2
        rw [if_neg (by rw [iI_le (by omega) (by omega)]; omega), hwt, b2s, q1, obs, iI_add]
        rfl
      · rw [goesN_succ]
        refine ⟨?_, ?_, ?_, ?_⟩
        · rw [day1_hd _ (by decide) (by decide), upI_1, if_neg (by simp)]
          exact q2.1.1.trans (by rw [ageN_hd _ _ _ (by decide)])
        · rw [day1_0, upI_1, if_pos (by simp), q2.1.2.1, ageN_hd _ _ _ (by decide), iI_add]
        · rw [day1_hd _ (by decide) (by decide), upI_1, if_neg (by simp)]
          exact q2.1.2.2.1.trans (by rw [ageN_hd _ _ _ (by decide)])
        · intro i hi
          rw [day1_hd _ (by omega) (by omega), upI_1, if_neg (by simp)]
          exact (q2.1.2.2.2 i hi).trans (by rw [ageN_hd _ _ _ (by omega)])
      · intro c hc
        rw [goesN_succ, mny_day1] at hc
        have hX := (q2.2 c (by rw [mny_hd (ageN_hd _ _)]; exact hc)).ag (Ag.upI (P := P1 1 w 0) (k := 1) (v := σ'.1 1 w 0 1 + iI 1) ⟨rfl, rfl, rfl⟩) (fun z => absurd z.1 (by decide))
        refine hX.cong (fun f hf => ?_)
        rw [goesN_succ]
        exact up_ne (by omega)
      · exact (i3.tr q3).tr (Ag.upI ⟨Or.inl rfl, rfl⟩)
    · intro a hI
      obtain ⟨a1, a2⟩ := a
      obtain ⟨rfl, i2, i3⟩ := hI
      refine ⟨a2, ?_, i2, i3⟩
      show b_World_passDays_2 w (iI n) (iI (n : Int)) a2 = _
      unfold b_World_passDays_2
      rw [if_pos (by rw [iI_le (by omega) (by omega)]; omega)]
  obtain ⟨σ', h1, h2, h3⟩ := hl
  refine ⟨σ', ?_, h2, h3⟩
  unfold f_World_passDays
  rw [h1, obs]
end XWORLD
