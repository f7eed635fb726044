/-! PURE: book, the reference -/
theorem m_book {τ : Sg} {v : Ro} (hg : GS v) (h0 : v 0 ≤ 10000) {s z c : Nat} (hs : s < 4) (hc : c < mny v) (hz : τ.1 29 0 0 s = iI (z : Int)) (hz4 : z ≤ 40) : ∃ σ', lp (fun a => b_M_book_24 (iI (s : Int)) (iI (c : Int)) a.1 a.2) FU (iI 0, sS τ v) = some σ' ∧ (∃ u, σ' = sS u (goesN v z) ∧ Ag (fun t _ _ => t = 30) τ u ∧ (∀ j, j < z → u.2.1 30 0 0 (40 * s + j) = bkK v (rug v c) (τ.1 28 0 0 s) j) ∧ ∀ q, ¬ (40 * s ≤ q ∧ q < 40 * s + z) → u.2.1 30 0 0 q = τ.2.1 30 0 0 q) := by
  have hm := mny_le hg
  refine lp_rel (fun d a => a.1 = iI (d : Int) ∧ ∃ u, a.2 = sS u (goesN v d) ∧ Ag (fun t _ _ => t = 30) τ u ∧ (∀ j, j < d → u.2.1 30 0 0 (40 * s + j) = bkK v (rug v c) (τ.1 28 0 0 s) j) ∧ ∀ q, ¬ (40 * s ≤ q ∧ q < 40 * s + d) → u.2.1 30 0 0 q = τ.2.1 30 0 0 q) (fun σ' : Sg => ∃ u, σ' = sS u (goesN v z) ∧ Ag (fun t _ _ => t = 30) τ u ∧ (∀ j, j < z → u.2.1 30 0 0 (40 * s + j) = bkK v (rug v c) (τ.1 28 0 0 s) j) ∧ ∀ q, ¬ (40 * s ≤ q ∧ q < 40 * s + z) → u.2.1 30 0 0 q = τ.2.1 30 0 0 q) z FU (iI 0, sS τ v) ⟨rfl, τ, rfl, Ag.rf, fun j hj => absurd hj (Nat.not_lt_zero j), fun _ _ => rfl⟩ ?_ ?_ (Nat.lt_of_le_of_lt hz4 (by decide))
  · intro d a hd hI
    obtain ⟨a1, a2⟩ := a
    obtain ⟨rfl, u, u1, i4, i5, i6⟩ := hI
    have u1 : a2 = sS u (goesN v d) := u1
    subst u1
    have e28 : (sS u (goesN v d)).1 28 0 0 s = τ.1 28 0 0 s := by rw [show (sS u (goesN v d)).1 28 = u.1 28 from r66_ne (by decide), (i4 28 0 0 (by simp)).1]
    have e29 : (sS u (goesN v d)).1 29 0 0 s = iI (z : Int) := by rw [show (sS u (goesN v d)).1 29 = u.1 29 from r66_ne (by decide), (i4 29 0 0 (by simp)).1, hz]
    have eg := goes_rgF (v := v) (r := rug v c) hg hc (fun i _ => rfl) (fun f _ => rfl) d (f := 3) (by decide)
    have em := m_goes (hg.goesN d (by omega)) (upL u 30 0 0 (40 * s + d) (bkK v (rug v c) (τ.1 28 0 0 s) d)) (n := 1) (by rw [goesN_0]; omega) (by decide)
    refine ⟨(iI ((d + 1 : Nat) : Int), sS (upL u 30 0 0 (40 * s + d) (bkK v (rug v c) (τ.1 28 0 0 s) d)) (goesN v (d + 1))), ?_, rfl, _, rfl, i4.tr (Ag.upL rfl), fun j hj => ?_, fun q hq => ?_⟩
    · show b_M_book_24 (iI (s : Int)) (iI (c : Int)) (iI (d : Int)) (sS u (goesN v d)) = _
      unfold b_M_book_24
      rw [rd_N hs (by decide), obs, e29, if_neg (by rw [iI_le (by omega) (by omega)]; omega), m_get3 (by omega), b2s, m_tells hs (by omega), b2s, e28, eg, upL_sS]
      show b2 (f_M_goes (iI ((1 : Nat) : Int)) (sS (upL u 30 0 0 (40 * s + d) (bkK v (rug v c) (τ.1 28 0 0 s) d)) (goesN v d))) _ = _
      rw [em, b2s, iI_add]
      rfl
    · rw [upL_1]
      by_cases e : j = d
      · rw [if_pos ⟨rfl, rfl, rfl, by omega⟩, e]
      · rw [if_neg (fun z => absurd z.2.2.2 (by omega))]
        exact i5 j (by omega)
    · rw [upL_1, if_neg (fun z => absurd z.2.2.2 (by omega))]
      exact i6 q (by omega)
  · intro a hI
    obtain ⟨a1, a2⟩ := a
    obtain ⟨rfl, u, u1, i4, i5, i6⟩ := hI
    have u1 : a2 = sS u (goesN v z) := u1
    subst u1
    have e29 : (sS u (goesN v z)).1 29 0 0 s = iI (z : Int) := by rw [show (sS u (goesN v z)).1 29 = u.1 29 from r66_ne (by decide), (i4 29 0 0 (by simp)).1, hz]
    refine ⟨sS u (goesN v z), ?_, u, rfl, i4, i5, i6⟩
    show b_M_book_24 (iI (s : Int)) (iI (c : Int)) (iI (z : Int)) (sS u (goesN v z)) = _
    unfold b_M_book_24
    rw [rd_N hs (by decide), obs, e29, if_pos (by rw [iI_le (by omega) (by omega)]; omega)]
