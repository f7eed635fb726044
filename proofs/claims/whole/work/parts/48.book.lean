/-! PURE: book (side by side) -/
theorem x_sr_ok {n : Nat} {σ : Sg} {v : Ro} (h : IW n σ v) {s : Nat} (hs : s < 4) (hm : ¬ σ.1 3 s 0 0 = iI 0) {z : Int} (hz : -2147483648 ≤ z ∧ z < 2147483648) : f_X_sheetAndRugFinding (iI (s : Int)) (iI z) σ = some (if 0 ≤ z ∧ z < v 2 then iI 0 else iI (-1000000001), σ) := by
  unfold f_X_sheetAndRugFinding
  rw [x_sf_ok hs hm, b2s, if_pos rfl, x_isRug h hz, b2s]
  by_cases e : 0 ≤ z ∧ z < v 2
  · rw [if_pos e, if_neg (by decide), if_pos e]
  · rw [if_neg e, if_pos rfl, if_neg e]
theorem x_sr_miss {s : Nat} (hs : s < 4) {σ : Sg} (hm : σ.1 3 s 0 0 = iI 0) (z : Int32) : f_X_sheetAndRugFinding (iI (s : Int)) z σ = some (iI (-1000000006), σ) := by
  unfold f_X_sheetAndRugFinding
  rw [x_sf_miss hs hm, b2s, if_neg (by decide)]
theorem x_sr_no {y : Int} (hy : -2147483648 ≤ y ∧ y < 2147483648) (h : ¬ (0 ≤ y ∧ y ≤ 3)) (z : Int32) (σ : Sg) : f_X_sheetAndRugFinding (iI y) z σ = some (iI (-1000000001), σ) := by
  unfold f_X_sheetAndRugFinding
  rw [x_sf_no hy h, b2s, if_neg (by decide)]
theorem m_ww_ok {v : Ro} (h : GS v) (σ : Sg) {s : Nat} (hs : s < 4) (hm : ¬ σ.1 28 0 0 s = iI 0) {z : Int} (hz : -2147483648 ≤ z ∧ z < 2147483648) : f_M_wrongWith (iI (s : Int)) (iI z) (sS σ v) = some (if 0 ≤ z ∧ z < v 2 then iI (-1) else iI 0, sS σ v) := by
  have e28 : (sS σ v).1 28 = σ.1 28 := r66_ne (by decide)
  unfold f_M_wrongWith
  rw [m_ws_ok hs (by rw [e28]; exact hm), b2s, if_pos (by decide), m_isC h σ hz, b2s]
  by_cases e : 0 ≤ z ∧ z < v 2
  · rw [if_pos e, if_neg (by decide), if_pos e]
  · rw [if_neg e, if_pos rfl, if_neg e]
theorem m_ww_miss {s : Nat} (hs : s < 4) {σ : Sg} (hm : σ.1 28 0 0 s = iI 0) (z : Int32) : f_M_wrongWith (iI (s : Int)) z σ = some (iI 5, σ) := by
  unfold f_M_wrongWith
  rw [m_ws_miss hs hm, b2s, if_neg (by decide)]
theorem m_ww_no {y : Int} (hy : -2147483648 ≤ y ∧ y < 2147483648) (h : ¬ (0 ≤ y ∧ y ≤ 3)) (z : Int32) (σ : Sg) : f_M_wrongWith (iI y) z σ = some (iI 0, σ) := by
  unfold f_M_wrongWith
  rw [m_ws_no hy h, b2s, if_neg (by decide)]
theorem upL_sS {σ : Sg} {s : Ro} {t i j k : Nat} {x : Int64} : upL (sS σ s) t i j k x = sS (upL σ t i j k x) s := rfl
theorem upL_aS {σ : Sg} {s : Ro} {t i j k : Nat} {x : Int64} : upL (aS σ s) t i j k x = aS (upL σ t i j k x) s := rfl
