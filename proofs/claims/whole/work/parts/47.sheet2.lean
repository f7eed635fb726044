/-! PURE: what is wrong with a sheet, or a sheet and a carpet -/
theorem x_sf_no {z : Int} (hz : -2147483648 ≤ z ∧ z < 2147483648) (h : ¬ (0 ≤ z ∧ z ≤ 3)) (σ : Sg) : f_X_sheetFinding (iI z) σ = some (iI (-1000000001), σ) := by
  unfold f_X_sheetFinding
  rw [x_isSheet hz, b2s, if_neg h, if_pos rfl]
theorem x_sf_miss {s : Nat} (hs : s < 4) {σ : Sg} (h : σ.1 3 s 0 0 = iI 0) : f_X_sheetFinding (iI (s : Int)) σ = some (iI (-1000000006), σ) := by
  unfold f_X_sheetFinding f_Sheet_isMissing
  rw [x_isSheet (by omega), b2s, if_pos (show 0 ≤ (s : Int) ∧ (s : Int) ≤ 3 by omega), if_neg (by decide), rd_N hs (by decide), obs, if_pos h, b2s, if_neg (by decide)]
theorem x_sf_ok {s : Nat} (hs : s < 4) {σ : Sg} (h : ¬ σ.1 3 s 0 0 = iI 0) : f_X_sheetFinding (iI (s : Int)) σ = some (iI 0, σ) := by
  unfold f_X_sheetFinding f_Sheet_isMissing
  rw [x_isSheet (by omega), b2s, if_pos (show 0 ≤ (s : Int) ∧ (s : Int) ≤ 3 by omega), if_neg (by decide), rd_N hs (by decide), obs, if_neg h, b2s, if_pos rfl]
theorem m_ws_no {z : Int} (hz : -2147483648 ≤ z ∧ z < 2147483648) (h : ¬ (0 ≤ z ∧ z ≤ 3)) (σ : Sg) : f_M_wrongSheet (iI z) σ = some (iI 0, σ) := by
  unfold f_M_wrongSheet
  rw [m_isSheet hz, b2s, if_neg h, if_pos rfl]
theorem m_ws_miss {s : Nat} (hs : s < 4) {σ : Sg} (h : σ.1 28 0 0 s = iI 0) : f_M_wrongSheet (iI (s : Int)) σ = some (iI 5, σ) := by
  unfold f_M_wrongSheet
  rw [m_isSheet (by omega), b2s, if_pos (show 0 ≤ (s : Int) ∧ (s : Int) ≤ 3 by omega), if_neg (by decide), rd_N hs (by decide), obs, if_pos h]
theorem m_ws_ok {s : Nat} (hs : s < 4) {σ : Sg} (h : ¬ σ.1 28 0 0 s = iI 0) : f_M_wrongSheet (iI (s : Int)) σ = some (iI (-1), σ) := by
  unfold f_M_wrongSheet
  rw [m_isSheet (by omega), b2s, if_pos (show 0 ≤ (s : Int) ∧ (s : Int) ≤ 3 by omega), if_neg (by decide), rd_N hs (by decide), obs, if_neg h]
