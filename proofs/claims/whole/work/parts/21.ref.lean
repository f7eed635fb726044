/-! PURE: the reference's own functions, over its row s of numbers -/
abbrev Ro : Type := Nat → Int
/-- a carpet of a row -/
def rug (s : Ro) (k : Nat) : Ro := fun f => s (10 + 7 * k + f)
/-- a carpet as it may be -/
def GR (r : Ro) : Prop := (0 ≤ r 0 ∧ r 0 ≤ 5) ∧ (0 ≤ r 1 ∧ r 1 ≤ 3) ∧ (1 ≤ r 2 ∧ r 2 ≤ 20) ∧ (0 ≤ r 3 ∧ r 3 ≤ 99) ∧ (0 ≤ r 4 ∧ r 4 ≤ 9) ∧ (-1 ≤ r 5 ∧ r 5 ≤ 39) ∧ (0 ≤ r 6 ∧ r 6 ≤ 99999)
/-- a row as it may be -/
def GS (s : Ro) : Prop := (0 ≤ s 0 ∧ s 0 ≤ 20000) ∧ (0 ≤ s 1 ∧ s 1 ≤ 99999) ∧ (0 ≤ s 2 ∧ s 2 ≤ 8) ∧ (∀ i, i < 7 → s (3 + i) = 0 ∨ s (3 + i) = 1) ∧ ∀ k : Nat, (k : Int) < s 2 → GR (rug s k)
def mny (s : Ro) : Nat := (s 2).toNat
theorem mny_eq {s : Ro} (h : GS s) : ((mny s : Nat) : Int) = s 2 := by
  obtain ⟨-, -, h3, -⟩ := h
  unfold mny
  omega
theorem mny_le {s : Ro} (h : GS s) : mny s ≤ 8 := by
  obtain ⟨-, -, h3, -⟩ := h
  unfold mny
  omega
theorem GS.rg {s : Ro} (h : GS s) {k : Nat} (hk : k < mny s) : GR (rug s k) := h.2.2.2.2 k (by have := mny_eq h; omega)
/-- the weather of a row: 1 or 0 -/
def wet (s : Ro) : Int := s (3 + (s 0).toNat % 7)
theorem wet_01 {s : Ro} (h : GS s) : wet s = 0 ∨ wet s = 1 := h.2.2.2.1 _ (Nat.mod_lt _ (by decide))
def reach (r : Ro) : Int := if r 0 = 1 then 2 * r 2 else if r 0 = 3 then 2 else if r 0 = 4 then (if r 2 < 2 then 1 else 2 * r 2 - 3) else if r 0 = 5 then (if 20 ≤ r 3 then r 2 else if r 2 < 2 then 1 else r 2 / 2) else r 2
def wears (r : Ro) (w : Int) : Int := if r 0 = 1 then 2 + 2 * w else if r 0 = 2 then w else if r 0 = 3 then 0 else if r 0 = 4 then 2 + 2 * w + r 4 else if r 0 = 5 then 2 * w else 1 + 2 * w
def breeds (r : Ro) (w : Int) : Int := if r 0 = 3 then 0 else if r 0 = 2 then 2 else if r 0 = 5 then (if w = 1 then 0 else 2) else 1
def beaten (r : Ro) : Int := if r 0 = 1 ∨ r 0 = 4 then 10 - r 4 else if r 0 = 2 then 6 else if r 0 = 3 then 0 else if r 0 = 5 then 12 else 10
theorem reach_rg {r : Ro} (h : GR r) : 1 ≤ reach r ∧ reach r ≤ 40 := by
  obtain ⟨h0, h1, h2, h3, h4, h5, h6⟩ := h
  unfold reach
  split
  · omega
  split
  · omega
  split
  · split <;> omega
  split
  · split
    · omega
    split <;> omega
  · omega
/-- a day of a carpet -/
def ageR (r : Ro) (w : Int) : Ro := if 0 ≤ r 5 then up (up r 3 (if r 3 - wears r w < 0 then 0 else r 3 - wears r w)) 5 (if r 3 - wears r w ≤ 0 then -1 else r 5)
  else up (up r 4 (if r 4 + breeds r w < 9 then r 4 + breeds r w else 9)) 3 (if r 3 - (if r 4 + breeds r w < 9 then r 4 + breeds r w else 9) / 3 < 0 then 0 else r 3 - (if r 4 + breeds r w < 9 then r 4 + breeds r w else 9) / 3)
/-- a row with another carpet -/
def setRug (s : Ro) (k : Nat) (r : Ro) : Ro := fun j => if 10 + 7 * k ≤ j ∧ j < 17 + 7 * k then r (j - (10 + 7 * k)) else s j
section MREF
variable {σ : Sg} {s : Ro}
theorem m_in1 (a b c : Int) (ha : -2147483648 ≤ a ∧ a < 2147483648) (hb : -2147483648 ≤ b ∧ b < 2147483648) (hc : -2147483648 ≤ c ∧ c < 2147483648) (σ : Sg) : f_M_in1 (iI a) (iI b) (iI c) σ = some (if b ≤ a ∧ a ≤ c then iI 1 else iI 0, σ) := by
  unfold f_M_in1
  simp only [iI_lt ha hb, iI_lt hc ha]
  split
  · rw [if_neg (by omega)]
  split
  · rw [if_neg (by omega)]
  · rw [if_pos (by omega)]
theorem m_less (a b : Int) (ha : -2147483648 ≤ a ∧ a < 2147483648) (hb : -2147483648 ≤ b ∧ b < 2147483648) (σ : Sg) : f_M_less (iI a) (iI b) σ = some (iI (if a < b then a else b), σ) := by
  unfold f_M_less
  simp only [iI_le hb ha]
  split
  · rw [if_neg (by omega)]
  · rw [if_pos (by omega)]
theorem m_getN {k f : Nat} (hk : k < 8) (hf : f < 7) : f_M_get (iI k) (iI f) (sS σ s) = some (iI (rug s k f), sS σ s) := by
  unfold f_M_get
  rw [iI_mul, iI_add, iI_add, show (10 + 7 * (k : Int) + (f : Int)) = ((10 + 7 * k + f : Nat) : Int) by omega, rd_N (by omega) (by decide), obs, sS_at (by omega)]
  rfl
theorem m_get0 {k : Nat} (hk : k < 8) : f_M_get (iI k) (iI 0) (sS σ s) = some (iI (rug s k 0), sS σ s) := m_getN hk (f := 0) (by decide)
theorem m_get1 {k : Nat} (hk : k < 8) : f_M_get (iI k) (iI 1) (sS σ s) = some (iI (rug s k 1), sS σ s) := m_getN hk (f := 1) (by decide)
theorem m_get2 {k : Nat} (hk : k < 8) : f_M_get (iI k) (iI 2) (sS σ s) = some (iI (rug s k 2), sS σ s) := m_getN hk (f := 2) (by decide)
theorem m_get3 {k : Nat} (hk : k < 8) : f_M_get (iI k) (iI 3) (sS σ s) = some (iI (rug s k 3), sS σ s) := m_getN hk (f := 3) (by decide)
theorem m_get4 {k : Nat} (hk : k < 8) : f_M_get (iI k) (iI 4) (sS σ s) = some (iI (rug s k 4), sS σ s) := m_getN hk (f := 4) (by decide)
theorem m_get5 {k : Nat} (hk : k < 8) : f_M_get (iI k) (iI 5) (sS σ s) = some (iI (rug s k 5), sS σ s) := m_getN hk (f := 5) (by decide)
theorem m_get6 {k : Nat} (hk : k < 8) : f_M_get (iI k) (iI 6) (sS σ s) = some (iI (rug s k 6), sS σ s) := m_getN hk (f := 6) (by decide)
theorem m_putsN {k f : Nat} (hk : k < 8) (hf : f < 7) (v : Int) : f_M_puts (iI k) (iI f) (iI v) (sS σ s) = some ((), sS σ (up s (10 + 7 * k + f) v)) := by
  unfold f_M_puts
  rw [iI_mul, iI_add, iI_add, show (10 + 7 * (k : Int) + (f : Int)) = ((10 + 7 * k + f : Nat) : Int) by omega, rd_N (by omega) (by decide), obs, sS_up (by omega)]
theorem m_puts0 {k : Nat} (hk : k < 8) (v : Int) : f_M_puts (iI k) (iI 0) (iI v) (sS σ s) = some ((), sS σ (up s (10 + 7 * k + 0) v)) := m_putsN hk (f := 0) (by decide) v
theorem m_puts1 {k : Nat} (hk : k < 8) (v : Int) : f_M_puts (iI k) (iI 1) (iI v) (sS σ s) = some ((), sS σ (up s (10 + 7 * k + 1) v)) := m_putsN hk (f := 1) (by decide) v
theorem m_puts2 {k : Nat} (hk : k < 8) (v : Int) : f_M_puts (iI k) (iI 2) (iI v) (sS σ s) = some ((), sS σ (up s (10 + 7 * k + 2) v)) := m_putsN hk (f := 2) (by decide) v
theorem m_puts3 {k : Nat} (hk : k < 8) (v : Int) : f_M_puts (iI k) (iI 3) (iI v) (sS σ s) = some ((), sS σ (up s (10 + 7 * k + 3) v)) := m_putsN hk (f := 3) (by decide) v
theorem m_puts4 {k : Nat} (hk : k < 8) (v : Int) : f_M_puts (iI k) (iI 4) (iI v) (sS σ s) = some ((), sS σ (up s (10 + 7 * k + 4) v)) := m_putsN hk (f := 4) (by decide) v
theorem m_puts5 {k : Nat} (hk : k < 8) (v : Int) : f_M_puts (iI k) (iI 5) (iI v) (sS σ s) = some ((), sS σ (up s (10 + 7 * k + 5) v)) := m_putsN hk (f := 5) (by decide) v
theorem m_puts6 {k : Nat} (hk : k < 8) (v : Int) : f_M_puts (iI k) (iI 6) (iI v) (sS σ s) = some ((), sS σ (up s (10 + 7 * k + 6) v)) := m_putsN hk (f := 6) (by decide) v
theorem rd_0 : rd (iI 0) 66 = some 0 := rfl
theorem rd_1 : rd (iI 1) 66 = some 1 := rfl
theorem rd_2 : rd (iI 2) 66 = some 2 := rfl
theorem m_rains (h : GS s) : f_M_rains (sS σ s) = some (iI (wet s), sS σ s) := by
  obtain ⟨h0, -⟩ := id h
  have hw := wet_01 h
  unfold f_M_rains
  rw [rd_0, obs, sS_at (by decide), iI_div (by omega) (by omega), iI_mul, iI_sub, iI_add, show (3 + (s 0 - s 0 / 7 * 7)) = ((3 + (s 0).toNat % 7 : Nat) : Int) by omega, rd_N (by omega) (by decide), obs, sS_at (by omega)]
  show (if iI (wet s) = iI 1 then some (iI 1, sS σ s) else some (iI 0, sS σ s)) = _
  rcases hw with e | e <;> rw [e] <;> rfl
theorem m_reach (h : GS s) {k : Nat} (hk : k < mny s) : f_M_reachOf (iI k) (sS σ s) = some (iI (reach (rug s k)), sS σ s) := by
  have hm := mny_le h
  obtain ⟨h0, h1, h2, h3, h4, h5, h6⟩ := h.rg hk
  unfold f_M_reachOf reach
  simp (disch := omega) only [m_get2, m_get0, m_get3, b2s, iI_eq, iI_le, iI_lt, iI_mul, iI_sub, iI_div]
  repeat' split
  all_goals first | rfl | (exfalso; omega)
theorem m_wears (h : GS s) {k : Nat} (hk : k < mny s) : f_M_wearsOf (iI k) (sS σ s) = some (iI (wears (rug s k) (wet s)), sS σ s) := by
  have hm := mny_le h
  have hw := wet_01 h
  obtain ⟨h0, h1, h2, h3, h4, h5, h6⟩ := h.rg hk
  unfold f_M_wearsOf j_M_wearsOf_12 wears
  rcases hw with e | e <;> simp (disch := omega) only [m_rains h, m_get0, m_get4, b2s, iI_eq, iI_le, iI_lt, iI_mul, iI_sub, iI_div, iI_add, e]
  all_goals repeat' split
  all_goals first | rfl | (exfalso; omega) | contradiction | (exact absurd trivial (by assumption))
theorem m_breeds (h : GS s) {k : Nat} (hk : k < mny s) : f_M_breedsOf (iI k) (sS σ s) = some (iI (breeds (rug s k) (wet s)), sS σ s) := by
  have hm := mny_le h
  have hw := wet_01 h
  obtain ⟨h0, h1, h2, h3, h4, h5, h6⟩ := h.rg hk
  unfold f_M_breedsOf breeds
  rcases hw with e | e <;> simp (disch := omega) only [m_rains h, m_get0, b2s, iI_eq, e]
  all_goals repeat' split
  all_goals first | rfl | (exfalso; omega) | contradiction | (exact absurd trivial (by assumption))
theorem m_beaten (h : GS s) {k : Nat} (hk : k < mny s) : f_M_beatenOf (iI k) (sS σ s) = some (iI (beaten (rug s k)), sS σ s) := by
  have hm := mny_le h
  obtain ⟨h0, h1, h2, h3, h4, h5, h6⟩ := h.rg hk
  unfold f_M_beatenOf j_M_beatenOf_17 beaten
  simp (disch := omega) only [m_get0, m_get4, b2s, iI_eq, iI_sub]
  repeat' split
  all_goals first | rfl | (exfalso; omega)
/-- lies on a yard -/
def lies (r : Ro) (y : Int) : Prop := 0 ≤ r 5 ∧ r 5 ≤ y ∧ y < r 5 + reach r
theorem m_lies (h : GS s) {k : Nat} (hk : k < mny s) {y : Int} (hy : -1 ≤ y ∧ y ≤ 40) [hd : Decidable (lies (rug s k) y)] : f_M_liesOn (iI k) (iI y) (sS σ s) = some (if lies (rug s k) y then iI 1 else iI 0, sS σ s) := by
  have hm := mny_le h
  have hr := reach_rg (h.rg hk)
  obtain ⟨h0, h1, h2, h3, h4, h5, h6⟩ := h.rg hk
  unfold f_M_liesOn
  simp (disch := omega) only [m_get5, m_reach h hk, b2s, iI_lt, iI_le, iI_add]
  by_cases hl : lies (rug s k) y
  · rw [if_pos hl]
    obtain ⟨a, b, c⟩ := hl
    rw [if_neg (by omega), if_neg (by omega), if_neg (by omega)]
  · rw [if_neg hl]
    split
    · rfl
    split
    · rfl
    split
    · rfl
    · exact absurd ⟨by omega, by omega, by omega⟩ hl
/-- the carpet on top -/
def topN (s : Ro) (y : Int) : Nat → Int
  | 0 => -1
  | k + 1 => if 0 ≤ rug s k 5 ∧ rug s k 5 ≤ y ∧ y < rug s k 5 + reach (rug s k) then (if topN s y k < 0 then (k : Int) else if rug s k 6 < rug s (topN s y k).toNat 6 then topN s y k else (k : Int)) else topN s y k
theorem topN_succ (s : Ro) (y : Int) (k : Nat) : topN s y (k + 1) = if 0 ≤ rug s k 5 ∧ rug s k 5 ≤ y ∧ y < rug s k 5 + reach (rug s k) then (if topN s y k < 0 then (k : Int) else if rug s k 6 < rug s (topN s y k).toNat 6 then topN s y k else (k : Int)) else topN s y k := rfl
theorem topN_rg (s : Ro) (y : Int) : ∀ k : Nat, -1 ≤ topN s y k ∧ topN s y k < k := by
  intro k
  induction k with
  | zero => exact (show (-1 : Int) ≤ -1 ∧ (-1 : Int) < ((0 : Nat) : Int) by decide)
  | succ k ih =>
    rw [topN_succ]
    repeat' split
    all_goals omega
def top (s : Ro) (y : Int) : Int := topN s y (mny s)
def whose (s : Ro) (y : Int) : Int := if top s y < 0 then -1 else rug s (top s y).toNat 1
theorem top_rg {s : Ro} (h : GS s) (y : Int) : -1 ≤ top s y ∧ top s y < mny s := topN_rg s y (mny s)
theorem whose_rg {s : Ro} (h : GS s) (y : Int) : -1 ≤ whose s y ∧ whose s y ≤ 3 := by
  unfold whose
  have h1 := top_rg h y
  split
  · omega
  · obtain ⟨-, h2, -⟩ := h.rg (k := (top s y).toNat) (by omega)
    omega
theorem m_top (h : GS s) {y : Int} (hy : -1 ≤ y ∧ y ≤ 40) : f_M_topOf (iI y) (sS σ s) = some (iI (top s y), sS σ s) := by
  have hm := mny_le h
  have he := mny_eq h
  have hl : lp (fun a => b_M_topOf_4 (iI y) a.1 a.2.1 a.2.2) FU (iI (-1), iI 0, sS σ s) = some (iI (top s y), sS σ s) := by
    refine lp_run (fun i => (iI (topN s y i), iI (i : Int), sS σ s)) (iI (top s y), sS σ s) (mny s) FU ?_ ?_ (Nat.lt_of_le_of_lt hm (by decide))
    · intro k hk
      have ht := topN_rg s y k
      obtain ⟨h0, h1, h2, h3, h4, h5, h6⟩ := h.rg hk
      have h26 : s 2 ≤ 8 := by omega
      show b_M_topOf_4 (iI y) (iI (topN s y k)) (iI (k : Int)) (sS σ s) = some (.inl (iI (topN s y (k + 1)), iI ((k + 1 : Nat) : Int), sS σ s))
      have hli := m_lies (σ := σ) h hk hy (hd := Classical.propDecidable _)
      unfold b_M_topOf_4
      rw [rd_2, obs, sS_at (by decide), if_neg (by rw [iI_le (by omega) (by omega)]; omega), hli, b2s]
      rw [topN_succ]
      by_cases hq : lies (rug s k) y
      · rw [if_pos hq, if_neg (by decide), if_pos (show 0 ≤ rug s k 5 ∧ rug s k 5 ≤ y ∧ y < rug s k 5 + reach (rug s k) from hq)]
        by_cases h7 : topN s y k < 0
        · simp (disch := omega) only [iI_lt, if_pos h7, iI_add]
          rfl
        · have e1 : topN s y k = (((topN s y k).toNat : Nat) : Int) := by omega
          obtain ⟨g0, g1, g2, g3, g4, g5, g6⟩ := h.rg (k := (topN s y k).toNat) (by omega)
          have hg := m_get6 (σ := σ) (s := s) (k := (topN s y k).toNat) (by omega)
          rw [← e1] at hg
          simp (disch := omega) only [iI_lt, if_neg h7, m_get6, hg, b2s, iI_add]
          split <;> rfl
      · rw [if_neg hq, if_pos (by decide), if_neg (show ¬ (0 ≤ rug s k 5 ∧ rug s k 5 ≤ y ∧ y < rug s k 5 + reach (rug s k)) from hq), iI_add]
        rfl
    · show b_M_topOf_4 (iI y) (iI (topN s y (mny s))) (iI (mny s : Int)) (sS σ s) = some (.inr (iI (top s y), sS σ s))
      unfold b_M_topOf_4
      rw [rd_2, obs, sS_at (by decide), if_pos (by rw [iI_le (by omega) (by omega)]; omega)]
      rfl
  unfold f_M_topOf
  rw [hl, obs]
theorem m_whose (h : GS s) {y : Int} (hy : -1 ≤ y ∧ y ≤ 40) : f_M_whoseIs (iI y) (sS σ s) = some (iI (whose s y), sS σ s) := by
  have hm := mny_le h
  have ht := top_rg h y
  unfold f_M_whoseIs whose
  rw [m_top h hy, b2s]
  by_cases h7 : top s y < 0
  · rw [if_pos h7, if_neg (by rw [iI_le (by omega) (by omega)]; omega)]
  · have e1 : top s y = (((top s y).toNat : Nat) : Int) := by omega
    have hg := m_get1 (σ := σ) (s := s) (k := (top s y).toNat) (by omega)
    rw [← e1] at hg
    rw [if_neg h7, if_pos (by rw [iI_le (by omega) (by omega)]; omega), hg, b2s]
/-- how many of the first n yards are of a realm -/
def yardsN (s : Ro) (m : Int) : Nat → Int
  | 0 => 0
  | k + 1 => yardsN s m k + (if whose s k = m then 1 else 0)
theorem yardsN_succ (s : Ro) (m : Int) (k : Nat) : yardsN s m (k + 1) = yardsN s m k + (if whose s k = m then 1 else 0) := rfl
theorem yardsN_rg (s : Ro) (m : Int) : ∀ k : Nat, 0 ≤ yardsN s m k ∧ yardsN s m k ≤ k := by
  intro k
  induction k with
  | zero => exact (show (0 : Int) ≤ 0 ∧ (0 : Int) ≤ ((0 : Nat) : Int) by decide)
  | succ k ih =>
    rw [yardsN_succ]
    split <;> omega
def yards (s : Ro) (m : Int) : Int := yardsN s m 40
theorem m_yards (h : GS s) {m : Int} (hm : -1 ≤ m ∧ m ≤ 3) : f_M_yardsOf (iI m) (sS σ s) = some (iI (yards s m), sS σ s) := by
  have hl : lp (fun a => b_M_yardsOf_4 (iI m) a.1 a.2.1 a.2.2) FU (iI 0, iI 0, sS σ s) = some (iI (yards s m), sS σ s) := by
    refine lp_run (fun i => (iI (yardsN s m i), iI (i : Int), sS σ s)) (iI (yards s m), sS σ s) 40 FU ?_ ?_ (by decide)
    · intro k hk
      have hw := whose_rg h (k : Int)
      show b_M_yardsOf_4 (iI m) (iI (yardsN s m k)) (iI (k : Int)) (sS σ s) = some (.inl (iI (yardsN s m (k + 1)), iI ((k + 1 : Nat) : Int), sS σ s))
      unfold b_M_yardsOf_4
      rw [yardsN_succ]
      simp (disch := omega) only [iI_le, m_whose h, b2s, iI_eq, iI_add]
      rw [if_neg (by omega)]
      split <;> rfl
    · show b_M_yardsOf_4 (iI m) (iI (yardsN s m 40)) (iI ((40 : Nat) : Int)) (sS σ s) = some (.inr (iI (yards s m), sS σ s))
      unfold b_M_yardsOf_4
      rw [if_pos (by decide)]
      rfl
  unfold f_M_yardsOf
  rw [hl, obs]
/-- the sum of a field -/
def sumN (s : Ro) (f : Nat) : Nat → Int
  | 0 => 0
  | k + 1 => sumN s f k + rug s k f
theorem m_sum (h : GS s) {f : Nat} (hf : f < 7) : f_M_sumOf (iI f) (sS σ s) = some (iI (sumN s f (mny s)), sS σ s) := by
  have hm := mny_le h
  have he := mny_eq h
  have hl : lp (fun a => b_M_sumOf_4 (iI f) a.1 a.2.1 a.2.2) FU (iI 0, iI 0, sS σ s) = some (iI (sumN s f (mny s)), sS σ s) := by
    refine lp_run (fun i => (iI (sumN s f i), iI (i : Int), sS σ s)) (iI (sumN s f (mny s)), sS σ s) (mny s) FU ?_ ?_ (Nat.lt_of_le_of_lt hm (by decide))
    · intro k hk
      show b_M_sumOf_4 (iI f) (iI (sumN s f k)) (iI (k : Int)) (sS σ s) = some (.inl (iI (sumN s f (k + 1)), iI ((k + 1 : Nat) : Int), sS σ s))
      unfold b_M_sumOf_4
      rw [rd_2, obs, sS_at (by decide), if_neg (by rw [iI_le (by omega) (by omega)]; omega), m_getN (by omega) hf, b2s, iI_add, iI_add]
      rfl
    · show b_M_sumOf_4 (iI f) (iI (sumN s f (mny s))) (iI (mny s : Int)) (sS σ s) = some (.inr (iI (sumN s f (mny s)), sS σ s))
      unfold b_M_sumOf_4
      rw [rd_2, obs, sS_at (by decide), if_pos (by rw [iI_le (by omega) (by omega)]; omega)]
  unfold f_M_sumOf
  rw [hl, obs]
end MREF
