/-! PURE: the reference, days -/
theorem r66_congr {σ : Sg} {t : Nat} {f h : Nat → Int32} (e : ∀ j, j < 66 → f j = h j) : r66 σ t f = r66 σ t h := by
  unfold r66
  congr 1
  funext j
  by_cases hj : j < 66
  · rw [if_pos hj, if_pos hj, e j hj]
  · rw [if_neg hj, if_neg hj]
theorem m_aside (σ : Sg) (s : Ro) : f_M_setsAside (sS σ s) = some ((), aS (sS σ s) s) := by
  unfold f_M_setsAside
  rw [copy66 (t := 20) (u := 22) (by decide) b_M_setsAside_2 (by funext x1 σ; rfl), obs]
  refine congrArg (fun z => some ((), z)) (r66_congr (fun j hj => sS_at hj))
theorem m_back (σ : Sg) (s a : Ro) : f_M_laysBack (aS (sS σ s) a) = some ((), aS (sS σ a) a) := by
  unfold f_M_laysBack
  rw [copy66 (t := 22) (u := 20) (by decide) b_M_laysBack_2 (by funext x1 σ; rfl), obs]
  refine congrArg (fun z => some ((), z)) ?_
  have e1 : aS (sS σ s) a = sS (aS σ a) s := asS
  rw [e1, asS]
  refine Eq.trans (r66_congr (h := fun j => iI (a j)) (fun j hj => ?_)) (sS_sS (σ := aS σ a) (a := s) (b := a))
  show (r66 (aS σ a) 20 (fun j => iI (s j))).1 22 0 0 j = iI (a j)
  rw [r66_ne (by decide)]
  exact r66_at hj
/-- a finding counted -/
def noS (σ : Sg) (w : Nat) : Sg := upI σ 23 0 0 w (σ.1 23 0 0 w + iI 1)
theorem m_no {w : Nat} (hw : w < 7) (σ : Sg) : f_M_no (iI w) σ = some (iI (-1000000001 - w), noS σ w) := by
  unfold f_M_no
  rw [rd_N hw (by decide), obs, obs, iI_sub]
  rfl
theorem m_no0 (σ : Sg) : f_M_no (iI 0) σ = some (iI (-1000000001), noS σ 0) := m_no (w := 0) (by decide) σ
theorem m_no1 (σ : Sg) : f_M_no (iI 1) σ = some (iI (-1000000002), noS σ 1) := m_no (w := 1) (by decide) σ
theorem m_no2 (σ : Sg) : f_M_no (iI 2) σ = some (iI (-1000000003), noS σ 2) := m_no (w := 2) (by decide) σ
theorem m_no3 (σ : Sg) : f_M_no (iI 3) σ = some (iI (-1000000004), noS σ 3) := m_no (w := 3) (by decide) σ
theorem m_no4 (σ : Sg) : f_M_no (iI 4) σ = some (iI (-1000000005), noS σ 4) := m_no (w := 4) (by decide) σ
theorem m_no5 (σ : Sg) : f_M_no (iI 5) σ = some (iI (-1000000006), noS σ 5) := m_no (w := 5) (by decide) σ
theorem m_no6 (σ : Sg) : f_M_no (iI 6) σ = some (iI (-1000000007), noS σ 6) := m_no (w := 6) (by decide) σ
theorem bo0 : bo (iI 0) = some (iI 0) := rfl
theorem bo1 : bo (iI 1) = some (iI 1) := rfl
theorem bo_if {c : Prop} [Decidable c] : bo (if c then iI 1 else iI 0) = some (if c then iI 1 else iI 0) := by split <;> rfl
theorem m_isC {s : Ro} (h : GS s) (σ : Sg) {k : Int} (hk : -2147483648 ≤ k ∧ k < 2147483648) : f_M_isCarpet (iI k) (sS σ s) = some (if 0 ≤ k ∧ k < s 2 then iI 1 else iI 0, sS σ s) := by
  obtain ⟨-, -, h3, -⟩ := id h
  unfold f_M_isCarpet
  rw [rd_2, obs, sS_at (by decide), iI_sub, m_in1 _ _ _ hk (by omega) (by omega), b2s, bo_if, obs]
  by_cases hq : 0 ≤ k ∧ k < s 2
  · rw [if_pos hq, if_pos (by omega)]
  · rw [if_neg hq, if_neg (by omega)]
theorem m_isY (σ : Sg) {k : Int} (hk : -2147483648 ≤ k ∧ k < 2147483648) : f_M_isYard (iI k) σ = some (if 0 ≤ k ∧ k ≤ 39 then iI 1 else iI 0, σ) := by
  unfold f_M_isYard
  rw [m_in1 _ _ _ hk (by omega) (by omega), b2s, bo_if, obs]
theorem rug_up {s : Ro} {k f f' : Nat} {v : Int} : rug (up s (10 + 7 * k + f) v) k f' = if f' = f then v else rug s k f' := by
  unfold rug up
  by_cases e : f' = f
  · rw [if_pos e, if_pos (by omega)]
  · rw [if_neg e, if_neg (by omega)]
theorem rug_up_ne {s : Ro} {k j f f' : Nat} {v : Int} (hj : j ≠ k) (hf : f < 7) (hf' : f' < 7) : rug (up s (10 + 7 * k + f) v) j f' = rug s j f' := up_ne (by omega)
theorem up_hd {s : Ro} {k f i : Nat} {v : Int} (hi : i < 10) : up s (10 + 7 * k + f) v i = s i := up_ne (by omega)
theorem setRug_at {s : Ro} {k f : Nat} {r : Ro} (hf : f < 7) : rug (setRug s k r) k f = r f := by
  unfold rug setRug
  rw [if_pos (by omega), show 10 + 7 * k + f - (10 + 7 * k) = f by omega]
theorem setRug_ne {s : Ro} {k j f : Nat} {r : Ro} (hj : j ≠ k) (hf : f < 7) : rug (setRug s k r) j f = rug s j f := by
  unfold rug setRug
  rw [if_neg (by omega)]
theorem setRug_hd {s : Ro} {k i : Nat} {r : Ro} (hi : i < 10) : setRug s k r i = s i := by
  unfold setRug
  rw [if_neg (by omega)]
theorem up_set {s : Ro} {k f : Nat} {v : Int} (hf : f < 7) : up s (10 + 7 * k + f) v = setRug s k (up (rug s k) f v) := by
  funext j
  simp only [up, setRug, rug]
  by_cases h1 : j = 10 + 7 * k + f
  · rw [if_pos h1, if_pos (by omega), if_pos (by omega)]
  · rw [if_neg h1]
    by_cases h2 : 10 + 7 * k ≤ j ∧ j < 17 + 7 * k
    · rw [if_pos h2, if_neg (by omega), show 10 + 7 * k + (j - (10 + 7 * k)) = j by omega]
    · rw [if_neg h2]
theorem up_setRug {s : Ro} {k f : Nat} {r : Ro} {v : Int} (hf : f < 7) : up (setRug s k r) (10 + 7 * k + f) v = setRug s k (up r f v) := by
  funext j
  simp only [up, setRug]
  by_cases h1 : j = 10 + 7 * k + f
  · rw [if_pos h1, if_pos (by omega), if_pos (by omega)]
  · rw [if_neg h1]
    by_cases h2 : 10 + 7 * k ≤ j ∧ j < 17 + 7 * k
    · rw [if_pos h2, if_pos h2, if_neg (by omega)]
    · rw [if_neg h2, if_neg h2]
theorem GR.cong {r r' : Ro} (e : ∀ f, f < 7 → r' f = r f) (h : GR r) : GR r' := by
  unfold GR
  rw [e 0 (by decide), e 1 (by decide), e 2 (by decide), e 3 (by decide), e 4 (by decide), e 5 (by decide), e 6 (by decide)]
  exact h
theorem GS.set {s : Ro} {k : Nat} {r : Ro} (h : GS s) (hr : GR r) : GS (setRug s k r) := by
  obtain ⟨h0, h1, h2, h3, h4⟩ := h
  refine ⟨by rw [setRug_hd (by decide)]; exact h0, by rw [setRug_hd (by decide)]; exact h1, by rw [setRug_hd (by decide)]; exact h2, fun i hi => by rw [setRug_hd (by omega)]; exact h3 i hi, fun j hj => ?_⟩
  rw [setRug_hd (by decide)] at hj
  by_cases e : j = k
  · subst e
    exact GR.cong (fun f hf => setRug_at hf) hr
  · exact GR.cong (fun f hf => setRug_ne e hf) (h4 j hj)
theorem GR.age {r : Ro} {w : Int} (h : GR r) (hw : w = 0 ∨ w = 1) : GR (ageR r w) := by
  obtain ⟨h0, h1, h2, h3, h4, h5, h6⟩ := h
  have hwe : 0 ≤ wears r w := by
    unfold wears
    repeat' split
    all_goals omega
  have hbr : 0 ≤ breeds r w ∧ breeds r w ≤ 2 := by
    unfold breeds
    repeat' split
    all_goals omega
  unfold ageR
  split
  · refine ⟨?_, ?_, ?_, ?_, ?_, ?_, ?_⟩
    · exact h0
    · exact h1
    · exact h2
    · show 0 ≤ (if r 3 - wears r w < 0 then 0 else r 3 - wears r w) ∧ (if r 3 - wears r w < 0 then 0 else r 3 - wears r w) ≤ 99
      split <;> omega
    · exact h4
    · show -1 ≤ (if r 3 - wears r w ≤ 0 then -1 else r 5) ∧ (if r 3 - wears r w ≤ 0 then -1 else r 5) ≤ 39
      split <;> omega
    · exact h6
  · refine ⟨?_, ?_, ?_, ?_, ?_, ?_, ?_⟩
    · exact h0
    · exact h1
    · exact h2
    · generalize e : (if r 4 + breeds r w < 9 then r 4 + breeds r w else 9) = m
      have hm : 0 ≤ m ∧ m ≤ 9 := by
        rw [← e]
        split <;> omega
      show 0 ≤ (if r 3 - m / 3 < 0 then 0 else r 3 - m / 3) ∧ (if r 3 - m / 3 < 0 then 0 else r 3 - m / 3) ≤ 99
      split <;> omega
    · show 0 ≤ (if r 4 + breeds r w < 9 then r 4 + breeds r w else 9) ∧ (if r 4 + breeds r w < 9 then r 4 + breeds r w else 9) ≤ 9
      split <;> omega
    · exact h5
    · exact h6
def age (s : Ro) (k : Nat) : Ro := setRug s k (ageR (rug s k) (wet s))
theorem wears_rg {r : Ro} {w : Int} (h : GR r) (hw : w = 0 ∨ w = 1) : 0 ≤ wears r w ∧ wears r w ≤ 13 := by
  obtain ⟨h0, h1, h2, h3, h4, h5, h6⟩ := h
  unfold wears
  repeat' split
  all_goals omega
theorem breeds_rg {r : Ro} {w : Int} (h : GR r) (hw : w = 0 ∨ w = 1) : 0 ≤ breeds r w ∧ breeds r w ≤ 2 := by
  unfold breeds
  repeat' split
  all_goals omega
theorem m_ages {s : Ro} (h : GS s) (σ : Sg) {k : Nat} (hk : k < mny s) : f_M_ages (iI k) (sS σ s) = some ((), sS σ (age s k)) := by
  have hm := mny_le h
  have hw := wet_01 h
  have hwe := wears_rg (h.rg hk) hw
  have hbr := breeds_rg (h.rg hk) hw
  obtain ⟨h0, h1, h2, h3, h4, h5, h6⟩ := h.rg hk
  unfold f_M_ages j_M_ages_34 j_M_ages_54 j_M_ages_109 age ageR
  by_cases hq : 0 ≤ rug s k 5
  · rw [if_pos hq]
    simp (disch := omega) only [m_get5, m_get3, m_wears h hk, b2s, iI_lt, iI_le, iI_sub, m_puts3, m_puts5, rug_up]
    rw [if_neg (by omega)]
    rw [← up_setRug (by decide), ← up_set (by decide)]
    repeat' split
    all_goals first | rfl | (exfalso; omega)
  · rw [if_neg hq]
    generalize hmm : (if rug s k 4 + breeds (rug s k) (wet s) < 9 then rug s k 4 + breeds (rug s k) (wet s) else 9) = mm
    have hmr : 0 ≤ mm ∧ mm ≤ 9 := by
      rw [← hmm]
      split <;> omega
    have hle : f_M_less (iI 9) (iI (rug s k 4 + breeds (rug s k) (wet s))) (sS σ s) = some (iI mm, sS σ s) := by
      rw [m_less _ _ (by omega) (by omega), ← hmm]
      by_cases h9 : rug s k 4 + breeds (rug s k) (wet s) < 9
      · rw [if_neg (by omega), if_pos h9]
      · rw [if_neg h9]
        by_cases h10 : 9 < rug s k 4 + breeds (rug s k) (wet s)
        · rw [if_pos h10]
        · rw [if_neg h10, show rug s k 4 + breeds (rug s k) (wet s) = 9 by omega]
    rw [← up_setRug (by decide), ← up_set (by decide)]
    simp (disch := omega) only [m_get5, m_get4, m_breeds h hk, b2s, iI_lt, iI_add, hle, m_puts4, m_get3, rug_up]
    rw [if_pos (by omega)]
    simp (disch := omega) only [show ¬ (3 = 4) from by decide, if_false, if_true, iI_div, iI_sub, iI_le, m_puts3, b2s]
    repeat' split
    all_goals first | rfl | (exfalso; omega)
