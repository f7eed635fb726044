/-! PURE: sheet (side by side) -/
theorem x_begin (σ : Sg) (s : Nat) (b l : Int32) : ∃ σ', f_Sheet_begin s b l σ = some ((), σ') ∧ Ag (fun t i j => (t = 3 ∨ t = 17) ∧ i = s ∧ j = 0) σ σ' ∧ σ'.1 3 s 0 0 = b ∧ σ'.1 3 s 0 1 = l ∧ ∀ j, j < 40 → σ'.2.1 17 s 0 j = lI 0 := by
  have hl : ∃ σ', lp (fun a => b_Sheet_begin_12 s a.1 a.2) FU (iI 0, upI (upI σ 3 s 0 0 b) 3 s 0 1 l) = some σ' ∧ (σ'.1 = (upI (upI σ 3 s 0 0 b) 3 s 0 1 l).1 ∧ Ag (fun t i j => t = 17 ∧ i = s ∧ j = 0) (upI (upI σ 3 s 0 0 b) 3 s 0 1 l) σ' ∧ ∀ j, j < 40 → σ'.2.1 17 s 0 j = lI 0) := by
    refine lp_rel (fun d a => a.1 = iI (d : Int) ∧ a.2.1 = (upI (upI σ 3 s 0 0 b) 3 s 0 1 l).1 ∧ Ag (fun t i j => t = 17 ∧ i = s ∧ j = 0) (upI (upI σ 3 s 0 0 b) 3 s 0 1 l) a.2 ∧ ∀ j, j < d → a.2.2.1 17 s 0 j = lI 0) (fun σ' : Sg => σ'.1 = (upI (upI σ 3 s 0 0 b) 3 s 0 1 l).1 ∧ Ag (fun t i j => t = 17 ∧ i = s ∧ j = 0) (upI (upI σ 3 s 0 0 b) 3 s 0 1 l) σ' ∧ ∀ j, j < 40 → σ'.2.1 17 s 0 j = lI 0) 40 FU _ ⟨rfl, rfl, Ag.rf, fun j hj => absurd hj (Nat.not_lt_zero j)⟩ ?_ ?_ (by decide)
    · intro d a hd hI
      obtain ⟨a1, a2⟩ := a
      obtain ⟨rfl, i1, i2, i3⟩ := hI
      refine ⟨(iI ((d + 1 : Nat) : Int), upL a2 17 s 0 d (lI 0)), ?_, rfl, i1, i2.tr (Ag.upL ⟨rfl, rfl, rfl⟩), fun j hj => ?_⟩
      · show b_Sheet_begin_12 s (iI (d : Int)) a2 = _
        unfold b_Sheet_begin_12
        rw [if_neg (by rw [iI_le (by omega) (by omega)]; omega), rd_N hd (by decide), obs, iI_add]
        rfl
      · show (upL a2 17 s 0 d (lI 0)).2.1 17 s 0 j = _
        rw [upL_1]
        by_cases e : j = d
        · rw [if_pos ⟨rfl, rfl, rfl, e⟩]
        · rw [if_neg (fun z => e z.2.2.2)]
          exact i3 j (by omega)
    · intro a hI
      obtain ⟨a1, a2⟩ := a
      obtain ⟨rfl, i1, i2, i3⟩ := hI
      exact ⟨a2, rfl, i1, i2, i3⟩
  obtain ⟨σ', q1, q2, q3, q4⟩ := hl
  refine ⟨σ', ?_, ((Ag.upI ⟨Or.inl rfl, rfl, rfl⟩).tr (Ag.upI ⟨Or.inl rfl, rfl, rfl⟩)).tr (q3.mono (fun t i j z => ⟨Or.inr z.1, z.2⟩)), ?_, ?_, q4⟩
  · unfold f_Sheet_begin
    rw [q1, obs]
  · rw [q2]
    simp [upI_1]
  · rw [q2]
    simp [upI_1]
theorem m_begin (σ : Sg) {s : Nat} (hs : s < 4) : ∃ σ', lp (fun a => b_M_sheet_83 (iI (s : Int)) a.1 a.2) FU (iI 0, σ) = some σ' ∧ (σ'.1 = σ.1 ∧ Ag (fun t _ _ => t = 30) σ σ' ∧ (∀ j, j < 40 → σ'.2.1 30 0 0 (40 * s + j) = lI 0) ∧ ∀ q, ¬ (40 * s ≤ q ∧ q < 40 * s + 40) → σ'.2.1 30 0 0 q = σ.2.1 30 0 0 q) := by
  refine lp_rel (fun d a => a.1 = iI (d : Int) ∧ a.2.1 = σ.1 ∧ Ag (fun t _ _ => t = 30) σ a.2 ∧ (∀ j, j < d → a.2.2.1 30 0 0 (40 * s + j) = lI 0) ∧ ∀ q, ¬ (40 * s ≤ q ∧ q < 40 * s + 40) → a.2.2.1 30 0 0 q = σ.2.1 30 0 0 q) (fun σ' : Sg => σ'.1 = σ.1 ∧ Ag (fun t _ _ => t = 30) σ σ' ∧ (∀ j, j < 40 → σ'.2.1 30 0 0 (40 * s + j) = lI 0) ∧ ∀ q, ¬ (40 * s ≤ q ∧ q < 40 * s + 40) → σ'.2.1 30 0 0 q = σ.2.1 30 0 0 q) 40 FU (iI 0, σ) ⟨rfl, rfl, Ag.rf, fun j hj => absurd hj (Nat.not_lt_zero j), fun _ _ => rfl⟩ ?_ ?_ (by decide)
  · intro d a hd hI
    obtain ⟨a1, a2⟩ := a
    obtain ⟨rfl, i1, i2, i3, i4⟩ := hI
    refine ⟨(iI ((d + 1 : Nat) : Int), upL a2 30 0 0 (40 * s + d) (lI 0)), ?_, rfl, i1, i2.tr (Ag.upL rfl), fun j hj => ?_, fun q hq => ?_⟩
    · show b_M_sheet_83 (iI (s : Int)) (iI (d : Int)) a2 = _
      unfold b_M_sheet_83
      rw [if_neg (by rw [iI_le (by omega) (by omega)]; omega), iI_mul, iI_add, iI_add, show 40 * (s : Int) + (d : Int) = ((40 * s + d : Nat) : Int) by omega, rd_N (by omega) (by decide), obs]
      rfl
    · show (upL a2 30 0 0 (40 * s + d) (lI 0)).2.1 30 0 0 (40 * s + j) = _
      rw [upL_1]
      by_cases e : j = d
      · rw [if_pos ⟨rfl, rfl, rfl, by omega⟩]
      · rw [if_neg (fun z => absurd z.2.2.2 (by omega))]
        exact i3 j (by omega)
    · show (upL a2 30 0 0 (40 * s + d) (lI 0)).2.1 30 0 0 q = _
      rw [upL_1, if_neg (fun z => absurd z.2.2.2 (by omega))]
      exact i4 q hq
  · intro a hI
    obtain ⟨a1, a2⟩ := a
    obtain ⟨rfl, i1, i2, i3, i4⟩ := hI
    exact ⟨a2, rfl, i1, i2, i3, i4⟩
