/-! PURE: the layers of a world, in their order -/
def bt (x : Int64) (j : Nat) : Bool := (nn x).testBit j
theorem bt_and (x y : Int64) (j : Nat) : bt (x &&& y) j = (bt x j && bt y j) := by
  unfold bt
  rw [nn_and, Nat.testBit_and]
theorem bt_or (x y : Int64) (j : Nat) : bt (x ||| y) j = (bt x j || bt y j) := by
  show ((x ||| y).toBitVec.toNat).testBit j = _
  rw [Int64.toBitVec_or, BitVec.toNat_or, Nat.testBit_or]
  rfl
theorem bt_not (x : Int64) {j : Nat} (hj : j < 64) : bt (x ^^^ lI (-1)) j = !bt x j := by
  show ((x ^^^ lI (-1)).toBitVec.toNat).testBit j = _
  rw [Int64.toBitVec_xor, BitVec.toNat_xor, Nat.testBit_xor, show (lI (-1)).toBitVec.toNat = 2 ^ 64 - 1 from rfl, Nat.testBit_two_pow_sub_one, decide_eq_true hj]
  show ((nn x).testBit j ^^ true) = _
  rw [Bool.xor_true]
  rfl
theorem bt_0 (j : Nat) : bt (lI 0) j = false := by
  show (nn (lI ((0 : Nat) : Int))).testBit j = false
  rw [nn_lI (by decide)]
  exact Nat.zero_testBit j
theorem nn_40 {x : Int64} (h : ∀ j, 40 ≤ j → bt x j = false) : nn x < 1099511627776 := by
  refine Nat.lt_of_not_le (fun hq => ?_)
  have h1 := Nat.lt_pow_two_of_testBit (n := 40) (nn x) (fun i hi => h i hi)
  exact absurd h1 (by rw [show (2 : Nat) ^ 40 = 1099511627776 from rfl]; omega)
theorem sp1 : ∀ c, c < 41 → (((lI 1) : Int64) <<< ((iI ((c : Nat) : Int) : Int32).toInt64 &&& 63)) - (lI 1) = lI ((2 ^ c - 1 : Nat) : Int) := by decide +kernel
theorem sp2 : ∀ f, f < 40 → ∀ c, c < 41 → f + c ≤ 40 → (lI ((2 ^ c - 1 : Nat) : Int) : Int64) <<< ((iI ((f : Nat) : Int) : Int32).toInt64 &&& 63) = lI (((2 ^ c - 1) * 2 ^ f : Nat) : Int) := by decide +kernel
/-- the yards that a carpet covers, as a long -/
def spanL (r : Ro) : Int64 := if 0 ≤ r 5 then lI (((2 ^ (cover r).toNat - 1) * 2 ^ (r 5).toNat : Nat) : Int) else lI 0
theorem x_span {σ : Sg} {w c : Nat} {r : Ro} (h : XR σ w c r) (hg : GR r) : f_Rug_span w c σ = some (spanL r, σ) := by
  have hc := cover_rg hg
  have h5 : -1 ≤ r 5 ∧ r 5 ≤ 39 := hg.2.2.2.2.2.1
  unfold f_Rug_span spanL
  rw [x_isOut h hg, b2s]
  by_cases e : 0 ≤ r 5
  · have e1 := sp1 (cover r).toNat (by omega)
    have e2 := sp2 (r 5).toNat (by omega) (cover r).toNat (by omega) (by omega)
    rw [show (((cover r).toNat : Nat) : Int) = cover r by omega] at e1
    rw [show (((r 5).toNat : Nat) : Int) = r 5 by omega] at e2
    rw [if_pos e, if_neg (by decide), x_cover h hg, b2s, h.2.2.2.2.2.1, e1, e2, if_pos e]
  · rw [if_neg e, if_pos rfl, if_neg e]
theorem bt_span {r : Ro} (hg : GR r) (j : Nat) : bt (spanL r) j = decide (0 ≤ r 5 ∧ r 5 ≤ (j : Int) ∧ (j : Int) < r 5 + cover r) := by
  have hc := cover_rg hg
  have h5 : -1 ≤ r 5 ∧ r 5 ≤ 39 := hg.2.2.2.2.2.1
  unfold spanL
  by_cases e : 0 ≤ r 5
  · have hle : (2 ^ (cover r).toNat - 1) * 2 ^ (r 5).toNat < 18446744073709551616 := by
      have h1 : 2 ^ (cover r).toNat * 2 ^ (r 5).toNat ≤ 2 ^ 40 := by
        rw [← Nat.pow_add]
        exact Nat.pow_le_pow_right (by decide) (by omega)
      have h2 : (2 ^ (cover r).toNat - 1) * 2 ^ (r 5).toNat ≤ 2 ^ (cover r).toNat * 2 ^ (r 5).toNat := Nat.mul_le_mul_right _ (Nat.sub_le _ _)
      exact Nat.lt_of_le_of_lt (Nat.le_trans h2 h1) (by decide)
    rw [if_pos e]
    unfold bt
    rw [nn_lI hle, ← Nat.shiftLeft_eq, Nat.testBit_shiftLeft, Nat.testBit_two_pow_sub_one]
    by_cases e1 : r 5 ≤ (j : Int)
    · by_cases e2 : (j : Int) < r 5 + cover r
      · rw [decide_eq_true (show j ≥ (r 5).toNat by omega), decide_eq_true (show j - (r 5).toNat < (cover r).toNat by omega), decide_eq_true ⟨e, e1, e2⟩]
        rfl
      · rw [decide_eq_false (show ¬ j - (r 5).toNat < (cover r).toNat by omega), decide_eq_false (show ¬ (0 ≤ r 5 ∧ r 5 ≤ (j : Int) ∧ (j : Int) < r 5 + cover r) from fun z => e2 z.2.2), Bool.and_false]
    · rw [decide_eq_false (show ¬ j ≥ (r 5).toNat by omega), decide_eq_false (show ¬ (0 ≤ r 5 ∧ r 5 ≤ (j : Int) ∧ (j : Int) < r 5 + cover r) from fun z => e1 z.2.1), Bool.false_and]
  · rw [if_neg e, bt_0, decide_eq_false (fun z => e z.1)]
/-- the layers of the first k carpets: L of them, ls in their order -/
def SV (σ : Sg) (w : Nat) (v : Ro) (k L : Nat) (ls : Nat → Nat) : Prop := σ.1 1 w 0 3 = iI (L : Int) ∧ L ≤ k ∧ (∀ i, i < L → σ.1 13 w 0 i = iI (ls i : Int)) ∧ (∀ i, i < L → ls i < k ∧ 0 ≤ rug v (ls i) 5) ∧ (∀ c, c < k → 0 ≤ rug v c 5 → ∃ i, i < L ∧ ls i = c) ∧ (∀ i i', i < i' → i' < L → rug v (ls i') 6 ≤ rug v (ls i) 6) ∧ ∀ c, c < k → 0 ≤ rug v c 5 → σ.2.1 14 w 0 c = spanL (rug v c)
theorem XW.up3 {σ : Sg} {w : Nat} {v : Ro} (h : XW σ w v) (x : Int32) : XW (upI σ 1 w 0 3 x) w v := by
  refine ⟨⟨?_, ?_, ?_, ?_⟩, fun c hc => (h.2 c hc).ag (Ag.upI (P := fun t _ _ => t = 1) rfl) (by simp)⟩
  · rw [upI_1, if_neg (by simp)]; exact h.1.1
  · rw [upI_1, if_neg (by simp)]; exact h.1.2.1
  · rw [upI_1, if_neg (by simp)]; exact h.1.2.2.1
  · intro i hi
    rw [upI_1, if_neg (by simp)]; exact h.1.2.2.2 i hi
def PS (w : Nat) : Nat → Nat → Nat → Prop := fun t i j => (t = 1 ∨ t = 13 ∨ t = 14) ∧ i = w ∧ j = 0
/-- one layer more: c, of those that are out -/
theorem x_addLayer {σ : Sg} {w : Nat} {v : Ro} (h : XW σ w v) (hg : GS v) {c L : Nat} {ls : Nat → Nat} (hc : c < mny v) (ho : 0 ≤ rug v c 5) (hs : SV σ w v c L ls) (hsp : σ.2.1 14 w 0 c = spanL (rug v c)) : ∃ σ' ls', f_World_addLayer w (iI (c : Int)) σ = some ((), σ') ∧ XW σ' w v ∧ SV σ' w v (c + 1) (L + 1) ls' ∧ Ag (PS w) σ σ' := by
  have hm := mny_le hg
  obtain ⟨s1, s2, s3, s4, s5, s6, s7⟩ := hs
  have hr6 : ∀ q, q < mny v → 0 ≤ rug v q 6 ∧ rug v q 6 ≤ 99999 := fun q hq => (hg.rg hq).2.2.2.2.2.2
  obtain ⟨D, d1, d2, d3⟩ := first_ex (p := fun d => d < L ∧ rug v (ls (L - d - 1)) 6 < rug v c 6) L (by omega)
  have hl : ∃ b, lp (fun a => b_World_addLayer_5 w (iI (c : Int)) a.1 a.2) FU (σ.1 1 w 0 3, σ) = some b ∧ (b.1 = iI ((L - D : Nat) : Int) ∧ XW b.2 w v ∧ Ag (fun t i j => t = 13 ∧ i = w ∧ j = 0) σ b.2 ∧ (∀ i, i < L - D → b.2.1 13 w 0 i = iI (ls i : Int)) ∧ ∀ i, L - D ≤ i → i < L → b.2.1 13 w 0 (i + 1) = iI (ls i : Int)) := by
    refine lp_rel (fun d a => a.1 = iI ((L - d : Nat) : Int) ∧ XW a.2 w v ∧ Ag (fun t i j => t = 13 ∧ i = w ∧ j = 0) σ a.2 ∧ (∀ i, i < L - d → a.2.1 13 w 0 i = iI (ls i : Int)) ∧ ∀ i, L - d ≤ i → i < L → a.2.1 13 w 0 (i + 1) = iI (ls i : Int)) (fun b : Int32 × Sg => b.1 = iI ((L - D : Nat) : Int) ∧ XW b.2 w v ∧ Ag (fun t i j => t = 13 ∧ i = w ∧ j = 0) σ b.2 ∧ (∀ i, i < L - D → b.2.1 13 w 0 i = iI (ls i : Int)) ∧ ∀ i, L - D ≤ i → i < L → b.2.1 13 w 0 (i + 1) = iI (ls i : Int)) D FU _ ⟨s1, h, Ag.rf, fun i hi => s3 i hi, fun i h1 h2 => absurd h2 (by omega)⟩ ?_ ?_ (Nat.lt_of_le_of_lt (show D ≤ 8 by omega) (by decide))
    · intro d a hd hI
      obtain ⟨a1, a2⟩ := a
      obtain ⟨rfl, i2, i3, i4, i5⟩ := hI
      have i2 : XW a2 w v := i2
      have i3 : Ag (fun t i j => t = 13 ∧ i = w ∧ j = 0) σ a2 := i3
      have i4 : ∀ i, i < L - d → a2.1 13 w 0 i = iI (ls i : Int) := i4
      have i5 : ∀ i, L - d ≤ i → i < L → a2.1 13 w 0 (i + 1) = iI (ls i : Int) := i5
      obtain ⟨k1, k2⟩ := d2 d hd
      obtain ⟨q1, q2⟩ := s4 (L - d - 1) (by omega)
      have hX := i2.2 (ls (L - d - 1)) (by omega)
      have hXc := i2.2 c hc
      have b1 := hr6 (ls (L - d - 1)) (by omega)
      have b2' := hr6 c hc
      have hA : Ag (fun t i j => t = 13 ∧ i = w ∧ j = 0) a2 (upI a2 13 w 0 (L - d) (iI (ls (L - d - 1) : Int))) := Ag.upI ⟨rfl, rfl, rfl⟩
      refine ⟨(iI ((L - (d + 1) : Nat) : Int), upI a2 13 w 0 (L - d) (iI (ls (L - d - 1) : Int))), ?_, rfl, i2.ag hA (by simp) (by simp) (by simp), i3.tr hA, fun i hi => ?_, fun i h1 h2 => ?_⟩
      · show b_World_addLayer_5 w (iI (c : Int)) (iI ((L - d : Nat) : Int)) a2 = _
        unfold b_World_addLayer_5
        rw [if_neg (by rw [iI_le (by omega) (by omega)]; omega), iI_sub, show ((L - d : Nat) : Int) - 1 = ((L - d - 1 : Nat) : Int) by omega, rd_N (by omega) (by decide), obs, i4 _ (by omega), rd_N (by omega) (by decide), obs, rd_N (by omega) (by decide), obs, hX.2.2.2.2.2.2 q2, hXc.2.2.2.2.2.2 ho, if_neg (by rw [iI_le (by omega) (by omega)]; omega), obs, rd_N (by omega) (by decide), obs, i4 _ (by omega), iI_add, show ((L - d : Nat) : Int) + -1 = ((L - (d + 1) : Nat) : Int) by omega]
      · show (upI a2 13 w 0 (L - d) (iI (ls (L - d - 1) : Int))).1 13 w 0 i = _
        rw [upI_1, if_neg (fun z => absurd z.2.2.2 (by omega))]
        exact i4 i (by omega)
      · show (upI a2 13 w 0 (L - d) (iI (ls (L - d - 1) : Int))).1 13 w 0 (i + 1) = _
        rw [upI_1]
        by_cases e : i + 1 = L - d
        · rw [if_pos ⟨rfl, rfl, rfl, e⟩, show L - d - 1 = i by omega]
        · rw [if_neg (fun z => e z.2.2.2)]
          exact i5 i (by omega) h2
    · intro a hI
      obtain ⟨a1, a2⟩ := a
      obtain ⟨rfl, i2, i3, i4, i5⟩ := hI
      have i2 : XW a2 w v := i2
      have i4 : ∀ i, i < L - D → a2.1 13 w 0 i = iI (ls i : Int) := i4
      refine ⟨(iI ((L - D : Nat) : Int), a2), ?_, rfl, i2, i3, i4, i5⟩
      show b_World_addLayer_5 w (iI (c : Int)) (iI ((L - D : Nat) : Int)) a2 = _
      unfold b_World_addLayer_5
      by_cases e : D < L
      · obtain ⟨q1, q2⟩ := s4 (L - D - 1) (by omega)
        have hX := i2.2 (ls (L - D - 1)) (by omega)
        have hXc := i2.2 c hc
        have b1 := hr6 (ls (L - D - 1)) (by omega)
        have b2' := hr6 c hc
        have hge : rug v c 6 ≤ rug v (ls (L - D - 1)) 6 := Int.not_lt.mp (fun z => d3 ⟨e, z⟩)
        rw [if_neg (by rw [iI_le (by omega) (by omega)]; omega), iI_sub, show ((L - D : Nat) : Int) - 1 = ((L - D - 1 : Nat) : Int) by omega, rd_N (by omega) (by decide), obs, i4 _ (by omega), rd_N (by omega) (by decide), obs, rd_N (by omega) (by decide), obs, hX.2.2.2.2.2.2 q2, hXc.2.2.2.2.2.2 ho, if_pos (by rw [iI_le (by omega) (by omega)]; exact hge)]
      · rw [if_pos (by rw [iI_le (by omega) (by omega)]; omega)]
  obtain ⟨⟨b1, σ1⟩, p1, p2, p3, p4, p5, p6⟩ := hl
  have p2 : b1 = iI ((L - D : Nat) : Int) := p2
  subst p2
  have p3 : XW σ1 w v := p3
  have p4 : Ag (fun t i j => t = 13 ∧ i = w ∧ j = 0) σ σ1 := p4
  have p5 : ∀ i, i < L - D → σ1.1 13 w 0 i = iI (ls i : Int) := p5
  have p6 : ∀ i, L - D ≤ i → i < L → σ1.1 13 w 0 (i + 1) = iI (ls i : Int) := p6
  have e13 : (upI σ1 13 w 0 (L - D) (iI (c : Int))).1 1 w 0 3 = iI (L : Int) := by
    rw [upI_1, if_neg (fun z => absurd z.1 (by decide)), (p4 1 w 0 (by simp)).1]
    exact s1
  have hA : Ag (fun t i j => t = 13 ∧ i = w ∧ j = 0) σ1 (upI σ1 13 w 0 (L - D) (iI (c : Int))) := Ag.upI ⟨rfl, rfl, rfl⟩
  have hA2 : Ag (PS w) σ (upI (upI σ1 13 w 0 (L - D) (iI (c : Int))) 1 w 0 3 (iI ((L + 1 : Nat) : Int))) := ((p4.tr hA).mono (fun t i j z => ⟨Or.inr (Or.inl z.1), z.2⟩)).tr (Ag.upI ⟨Or.inl rfl, rfl, rfl⟩)
  refine ⟨upI (upI σ1 13 w 0 (L - D) (iI (c : Int))) 1 w 0 3 (iI ((L + 1 : Nat) : Int)), fun i => if i < L - D then ls i else if i = L - D then c else ls (i - 1), ?_, (p3.ag hA (by simp) (by simp) (by simp)).up3 _, ⟨?_, by omega, fun i hi => ?_, fun i hi => ?_, fun q hq oq => ?_, fun i i' h1 h2 => ?_, fun q hq oq => ?_⟩, hA2⟩
  · unfold f_World_addLayer j_World_addLayer_57
    rw [p1, obs, rd_N (by omega) (by decide), obs, e13, iI_add]
    rfl
  · rw [upI_1, if_pos ⟨rfl, rfl, rfl, rfl⟩]
  · rw [upI_1, if_neg (fun z => absurd z.1 (by decide)), upI_1]
    dsimp only
    by_cases e1 : i < L - D
    · rw [if_neg (fun z => absurd z.2.2.2 (by omega)), if_pos e1]
      exact p5 i e1
    · by_cases e2 : i = L - D
      · rw [if_pos ⟨rfl, rfl, rfl, e2⟩, if_neg e1, if_pos e2]
      · rw [if_neg (fun z => e2 z.2.2.2), if_neg e1, if_neg e2]
        have := p6 (i - 1) (by omega) (by omega)
        rw [show i - 1 + 1 = i by omega] at this
        exact this
  · dsimp only
    by_cases e1 : i < L - D
    · rw [if_pos e1]
      have := s4 i (by omega)
      exact ⟨by omega, this.2⟩
    · by_cases e2 : i = L - D
      · rw [if_neg e1, if_pos e2]
        exact ⟨by omega, ho⟩
      · rw [if_neg e1, if_neg e2]
        have := s4 (i - 1) (by omega)
        exact ⟨by omega, this.2⟩
  · by_cases e : q = c
    · exact ⟨L - D, by omega, by dsimp only; rw [if_neg (by omega), if_pos rfl, e]⟩
    · obtain ⟨i, k1, k2⟩ := s5 q (by omega) oq
      by_cases e1 : i < L - D
      · exact ⟨i, by omega, by dsimp only; rw [if_pos e1, k2]⟩
      · exact ⟨i + 1, by omega, by dsimp only; rw [if_neg (by omega), if_neg (by omega), show i + 1 - 1 = i by omega, k2]⟩
  · dsimp only
    have hlo : ∀ i, i < L - D → rug v c 6 ≤ rug v (ls i) 6 := by
      intro i hi
      have hge : rug v c 6 ≤ rug v (ls (L - D - 1)) 6 := Int.not_lt.mp (fun z => d3 ⟨by omega, z⟩)
      by_cases e : i = L - D - 1
      · rw [e]; exact hge
      · have := s6 i (L - D - 1) (by omega) (by omega)
        omega
    have hhi : ∀ i, L - D ≤ i → i < L → rug v (ls i) 6 ≤ rug v c 6 := by
      intro i h3 h4
      have := (d2 (L - 1 - i) (by omega)).2
      rw [show L - (L - 1 - i) - 1 = i by omega] at this
      omega
    by_cases e1 : i' < L - D
    · rw [if_pos e1, if_pos (by omega)]
      exact s6 i i' h1 (by omega)
    · rw [if_neg e1]
      by_cases e2 : i' = L - D
      · rw [if_pos e2, if_pos (by omega)]
        exact hlo i (by omega)
      · rw [if_neg e2]
        by_cases e3 : i < L - D
        · rw [if_pos e3]
          exact s6 i (i' - 1) (by omega) (by omega)
        · rw [if_neg e3]
          by_cases e4 : i = L - D
          · rw [if_pos e4]
            exact hhi (i' - 1) (by omega) (by omega)
          · rw [if_neg e4]
            exact s6 (i - 1) (i' - 1) (by omega) (by omega)
  · have e14 : (upI (upI σ1 13 w 0 (L - D) (iI (c : Int))) 1 w 0 3 (iI ((L + 1 : Nat) : Int))).2.1 14 w 0 = σ.2.1 14 w 0 := (p4 14 w 0 (by simp)).2.1
    rw [e14]
    by_cases e : q = c
    · rw [e]; exact hsp
    · exact s7 q (by omega) oq
theorem x_survey {σ : Sg} {w : Nat} {v : Ro} (h : XW σ w v) (hg : GS v) : ∃ σ' L ls, f_World_survey w σ = some ((), σ') ∧ XW σ' w v ∧ SV σ' w v (mny v) L ls ∧ Ag (PS w) σ σ' := by
  have hm := mny_le hg
  have he := mny_eq hg
  have hl : ∃ σ', lp (fun a => b_World_survey_7 w a.1 a.2) FU (iI 0, upI σ 1 w 0 3 (iI 0)) = some σ' ∧ (XW σ' w v ∧ (∃ L ls, SV σ' w v (mny v) L ls) ∧ Ag (PS w) σ σ') := by
    refine lp_rel (fun k a => a.1 = iI (k : Int) ∧ XW a.2 w v ∧ (∃ L ls, SV a.2 w v k L ls) ∧ Ag (PS w) σ a.2) (fun σ' : Sg => XW σ' w v ∧ (∃ L ls, SV σ' w v (mny v) L ls) ∧ Ag (PS w) σ σ') (mny v) FU _ ⟨rfl, h.up3 _, ⟨0, fun _ => 0, ?_⟩, Ag.upI ⟨Or.inl rfl, rfl, rfl⟩⟩ ?_ ?_ (Nat.lt_of_le_of_lt hm (by decide))
    · refine ⟨by rw [upI_1, if_pos ⟨rfl, rfl, rfl, rfl⟩]; rfl, Nat.le_refl _, fun i hi => absurd hi (Nat.not_lt_zero i), fun i hi => absurd hi (Nat.not_lt_zero i), fun q hq => absurd hq (Nat.not_lt_zero q), fun i i' _ hi => absurd hi (Nat.not_lt_zero i'), fun q hq => absurd hq (Nat.not_lt_zero q)⟩
    · intro k a hk hI
      obtain ⟨a1, a2⟩ := a
      obtain ⟨rfl, i2, ⟨L, ls, i3⟩, i4⟩ := hI
      have i2 : XW a2 w v := i2
      have i3 : SV a2 w v k L ls := i3
      have i4 : Ag (PS w) σ a2 := i4
      have hR := i2.2 k hk
      by_cases ho : 0 ≤ rug v k 5
      · have hA : Ag (fun t i j => t = 14 ∧ i = w ∧ j = 0) a2 (upL a2 14 w 0 k (spanL (rug v k))) := Ag.upL ⟨rfl, rfl, rfl⟩
        have j2 : XW (upL a2 14 w 0 k (spanL (rug v k))) w v := i2.ag hA (by simp) (by simp) (by simp)
        have j3 : SV (upL a2 14 w 0 k (spanL (rug v k))) w v k L ls := by
          obtain ⟨s1, s2, s3, s4, s5, s6, s7⟩ := i3
          refine ⟨s1, s2, s3, s4, s5, s6, fun q hq oq => ?_⟩
          rw [upL_1, if_neg (fun z => absurd z.2.2.2 (by omega))]
          exact s7 q hq oq
        obtain ⟨σ', ls', q1, q2, q3, q4⟩ := x_addLayer j2 hg hk ho j3 (by rw [upL_1, if_pos ⟨rfl, rfl, rfl, rfl⟩])
        refine ⟨(iI ((k + 1 : Nat) : Int), σ'), ?_, rfl, q2, ⟨L + 1, ls', q3⟩, (i4.tr (hA.mono (fun t i j z => ⟨Or.inr (Or.inr z.1), z.2⟩))).tr q4⟩
        show b_World_survey_7 w (iI (k : Int)) a2 = _
        unfold b_World_survey_7
        rw [i2.1.1, if_neg (by rw [iI_le (by omega) (by omega)]; omega), rd_N (by omega) (by decide), obs, x_isOut hR (hg.rg hk), b2s, if_pos ho, if_neg (by decide), obs, x_span hR (hg.rg hk), b2s, obs, q1, b2s, iI_add]
        rfl
      · refine ⟨(iI ((k + 1 : Nat) : Int), a2), ?_, rfl, i2, ⟨L, ls, ?_⟩, i4⟩
        · show b_World_survey_7 w (iI (k : Int)) a2 = _
          unfold b_World_survey_7
          rw [i2.1.1, if_neg (by rw [iI_le (by omega) (by omega)]; omega), rd_N (by omega) (by decide), obs, x_isOut hR (hg.rg hk), b2s, if_neg ho, if_pos rfl, iI_add]
          rfl
        · obtain ⟨s1, s2, s3, s4, s5, s6, s7⟩ := i3
          refine ⟨s1, by omega, s3, fun i hi => ⟨by have := (s4 i hi).1; omega, (s4 i hi).2⟩, fun q hq oq => ?_, s6, fun q hq oq => ?_⟩
          · exact s5 q (by have : q ≠ k := fun e => ho (by rw [← e]; exact oq)
                           omega) oq
          · exact s7 q (by have : q ≠ k := fun e => ho (by rw [← e]; exact oq)
                           omega) oq
    · intro a hI
      obtain ⟨a1, a2⟩ := a
      obtain ⟨rfl, i2, i3, i4⟩ := hI
      have i2 : XW a2 w v := i2
      refine ⟨a2, ?_, i2, i3, i4⟩
      show b_World_survey_7 w (iI (mny v : Int)) a2 = _
      unfold b_World_survey_7
      rw [i2.1.1, if_pos (by rw [iI_le (by omega) (by omega)]; omega)]
  obtain ⟨σ', p1, p2, ⟨L, ls, p3⟩, p4⟩ := hl
  refine ⟨σ', L, ls, ?_, p2, p3, p4⟩
  unfold f_World_survey
  rw [p1, obs]
