/-! PURE: write (side by side) -/
theorem both_write (n : Nat) (a b : Int32) (x : Int64) : Both n (f_X_write a b x) (f_M_write a b x) := by
  intro σ h
  obtain ⟨za, rfl, ha⟩ := toI a
  obtain ⟨zb, rfl, hb⟩ := toI b
  obtain ⟨v, kp, len, bs, h1, h2, h3, h4, h5⟩ := id h
  have f28 : ∀ k : Nat, (foS σ k).1 28 = σ.1 28 := fun k => by funext i j q; simp [foS, upI_1]
  have f29 : ∀ k : Nat, (foS σ k).1 29 = σ.1 29 := fun k => by funext i j q; simp [foS, upI_1]
  by_cases hca : 0 ≤ za ∧ za ≤ 3
  · obtain ⟨s, hs⟩ : ∃ s : Nat, za = (s : Int) := ⟨za.toNat, by omega⟩
    subst hs
    have hs4 : s < 4 := by omega
    obtain ⟨k1, k2, ⟨z, z1, z2, z3⟩, k4⟩ := h5 s hs4
    by_cases hm : σ.1 28 0 0 s = iI 0
    · refine both_fg (k := 5) (by decide) (r := (iI (-1000000006)).toInt64) h ?_ ?_
      · unfold f_X_write f_Sheet_isMissing
        rw [x_isSheet ha, b2s, if_pos hca, if_neg (by decide), rd_N hs4 (by decide), obs, k1, if_pos hm, b2s, if_neg (by decide), x_found5, b2s]
      · unfold f_M_write f_M_wrongSheet j_M_write_31
        rw [m_isSheet ha, b2s, if_pos hca, if_neg (by decide), rd_N hs4 (by decide), obs, f28, if_pos hm, b2s, if_pos (by decide), if_neg (by decide), m_no5, b2s]
    · by_cases hi : 0 ≤ zb ∧ zb < z
      · obtain ⟨i, hi'⟩ : ∃ i : Nat, zb = (i : Int) := ⟨zb.toNat, by omega⟩
        subst hi'
        have hi40 : i < 40 := by omega
        refine ⟨σ.2.1 17 s 0 i, upL σ 17 s 0 i (kept (σ.1 3 s 0 0) x), upL (upL σ 17 s 0 i (kept (σ.1 3 s 0 0) x)) 30 0 0 (40 * s + i) (kept (σ.1 3 s 0 0) x), ?_, ?_, (h.put hs4 hi40 _).mono (by omega)⟩
        · unfold f_X_write f_Sheet_isMissing
          rw [x_isSheet ha, b2s, if_pos hca, if_neg (by decide), rd_N hs4 (by decide), obs, k1, if_neg hm, b2s, if_pos rfl, z2, iI_sub, x_within _ _ _ hb (by omega) (by omega), b2s, if_pos (show 0 ≤ (i : Int) ∧ (i : Int) ≤ (z : Int) - 1 by omega), if_neg (by decide), rd_N hi40 (by decide), obs, x_put z2 (by omega) z1, b2s, k1]
        · unfold f_M_write f_M_wrongSheet j_M_write_31 f_M_told
          rw [m_isSheet ha, b2s, if_pos hca, if_neg (by decide), rd_N hs4 (by decide), obs, show (upL σ 17 s 0 i (kept (σ.1 3 s 0 0) x)).1 = σ.1 from rfl, if_neg hm, b2s, if_neg (by decide), obs, show (upL σ 17 s 0 i (kept (σ.1 3 s 0 0) x)).1 = σ.1 from rfl, z3, iI_sub, m_in1 _ _ _ hb (by omega) (by omega), b2s, if_pos (show 0 ≤ (i : Int) ∧ (i : Int) ≤ (z : Int) - 1 by omega), if_neg (by decide), if_pos (by decide), iI_mul, iI_add, show 40 * (s : Int) + (i : Int) = ((40 * s + i : Nat) : Int) by omega, rd_N (by omega) (by decide), obs, b2s, m_tells hs4 hi40, b2s, show (upL σ 17 s 0 i (kept (σ.1 3 s 0 0) x)).1 = σ.1 from rfl, ← k1, upL_1, if_neg (fun z => absurd z.1 (by decide)), ← k4 i hi40]
      · refine both_fg (k := 0) (by decide) (r := (iI (-1000000001)).toInt64) h ?_ ?_
        · unfold f_X_write f_Sheet_isMissing
          rw [x_isSheet ha, b2s, if_pos hca, if_neg (by decide), rd_N hs4 (by decide), obs, k1, if_neg hm, b2s, if_pos rfl, z2, iI_sub, x_within _ _ _ hb (by omega) (by omega), b2s, if_neg (show ¬ (0 ≤ zb ∧ zb ≤ (z : Int) - 1) by omega), if_pos rfl, x_found0, b2s]
        · unfold f_M_write f_M_wrongSheet j_M_write_31
          rw [m_isSheet ha, b2s, if_pos hca, if_neg (by decide), rd_N hs4 (by decide), obs, f28, if_neg hm, b2s, if_neg (by decide), obs, f29, z3, iI_sub, m_in1 _ _ _ hb (by omega) (by omega), b2s, if_neg (show ¬ (0 ≤ zb ∧ zb ≤ (z : Int) - 1) by omega), if_pos rfl, if_neg (by decide), m_no0, b2s]
  · refine both_fg (k := 0) (by decide) (r := (iI (-1000000001)).toInt64) h ?_ ?_
    · unfold f_X_write
      rw [x_isSheet ha, b2s, if_neg hca, if_pos rfl, x_found0, b2s]
    · unfold f_M_write f_M_wrongSheet j_M_write_31
      rw [m_isSheet ha, b2s, if_neg hca, if_pos rfl, b2s, if_pos (by decide), if_neg (by decide), m_no0, b2s]
