/-! PURE: book (side by side) -/
theorem x_sr_ok {n : Nat} {σ : Sg} {v : Ro} (h : IW n σ v) {s : Nat} (hs : s < 4) (hm : ¬ σ.1 3 s 0 0 = iI 0) {z : Int} (hz : -2147483648 ≤ z ∧ z < 2147483648) : f_X_sheetAndRugFinding (iI (s : Int)) (iI z) σ = some (if 0 ≤ z ∧ z < v 2 then iI 0 else iI (-1000000001), σ) := by
  unfold f_X_sheetAndRugFinding
  rw [x_sf_ok hs hm, b2s, if_pos rfl, x_isRug h hz, b2s]
  by_cases e : 0 ≤ z ∧ z < v 2
  · rw [if_pos e, if_neg (by decide), if_pos e]
  · rw [if_neg e, if_pos rfl, if_neg e]
theorem x_sr_miss {s : Nat} (hs : s < 4) {σ : Sg} (hm : σ.1 3 s 0 0 = iI 0) (z : Int32) : f_X_sheetAndRugFinding (iI (s : Int)) z σ = some (iI (-1000000006), σ) := by
  unfold f_X_sheetAndRugFinding
  rw [x_sf_miss hs hm, b2s, if_neg (by decide)]
theorem x_sr_no {y : Int} (hy : -2147483648 ≤ y ∧ y < 2147483648) (h : ¬ (0 ≤ y ∧ y ≤ 3)) (z : Int32) (σ : Sg) : f_X_sheetAndRugFinding (iI y) z σ = some (iI (-1000000001), σ) := by
  unfold f_X_sheetAndRugFinding
  rw [x_sf_no hy h, b2s, if_neg (by decide)]
theorem m_ww_ok {v : Ro} (h : GS v) (σ : Sg) {s : Nat} (hs : s < 4) (hm : ¬ σ.1 28 0 0 s = iI 0) {z : Int} (hz : -2147483648 ≤ z ∧ z < 2147483648) : f_M_wrongWith (iI (s : Int)) (iI z) (sS σ v) = some (if 0 ≤ z ∧ z < v 2 then iI (-1) else iI 0, sS σ v) := by
  have e28 : (sS σ v).1 28 = σ.1 28 := r66_ne (by decide)
  unfold f_M_wrongWith
  rw [m_ws_ok hs (by rw [e28]; exact hm), b2s, if_pos (by decide), m_isC h σ hz, b2s]
  by_cases e : 0 ≤ z ∧ z < v 2
  · rw [if_pos e, if_neg (by decide), if_pos e]
  · rw [if_neg e, if_pos rfl, if_neg e]
theorem m_ww_miss {s : Nat} (hs : s < 4) {σ : Sg} (hm : σ.1 28 0 0 s = iI 0) (z : Int32) : f_M_wrongWith (iI (s : Int)) z σ = some (iI 5, σ) := by
  unfold f_M_wrongWith
  rw [m_ws_miss hs hm, b2s, if_neg (by decide)]
theorem m_ww_no {y : Int} (hy : -2147483648 ≤ y ∧ y < 2147483648) (h : ¬ (0 ≤ y ∧ y ≤ 3)) (z : Int32) (σ : Sg) : f_M_wrongWith (iI y) z σ = some (iI 0, σ) := by
  unfold f_M_wrongWith
  rw [m_ws_no hy h, b2s, if_neg (by decide)]
theorem upL_sS {σ : Sg} {s : Ro} {t i j k : Nat} {x : Int64} : upL (sS σ s) t i j k x = sS (upL σ t i j k x) s := rfl
theorem upL_aS {σ : Sg} {s : Ro} {t i j k : Nat} {x : Int64} : upL (aS σ s) t i j k x = aS (upL σ t i j k x) s := rfl
/-- the numbers that a book tells -/
def bkK (v r : Ro) (b : Int32) (d : Nat) : Int64 := kept b (iI (rgF v r d 3)).toInt64
theorem x_book {σ : Sg} {v r : Ro} (hH : XH σ 0 v) (hg : GS v) (hr : GR r) (hX : XR σ 3 0 r) {s z : Nat} (hz : σ.1 3 s 0 1 = iI (z : Int)) (hz4 : z ≤ 40) : ∃ σ', lp (fun a => b_X_book_44 s a.1 a.2) FU (iI 0, σ) = some σ' ∧ (Ag (fun t i j => PP t i j ∨ (t = 17 ∧ i = s ∧ j = 0)) σ σ' ∧ (∀ j, j < z → σ'.2.1 17 s 0 j = bkK v r (σ.1 3 s 0 0) j) ∧ ∀ j, z ≤ j → σ'.2.1 17 s 0 j = σ.2.1 17 s 0 j) := by
  refine lp_rel (fun d a => a.1 = iI (d : Int) ∧ XH a.2 0 v ∧ XR a.2 3 0 (rgF v r d) ∧ Ag (fun t i j => PP t i j ∨ (t = 17 ∧ i = s ∧ j = 0)) σ a.2 ∧ (∀ j, j < d → a.2.2.1 17 s 0 j = bkK v r (σ.1 3 s 0 0) j) ∧ ∀ j, d ≤ j → a.2.2.1 17 s 0 j = σ.2.1 17 s 0 j) (fun σ' : Sg => Ag (fun t i j => PP t i j ∨ (t = 17 ∧ i = s ∧ j = 0)) σ σ' ∧ (∀ j, j < z → σ'.2.1 17 s 0 j = bkK v r (σ.1 3 s 0 0) j) ∧ ∀ j, z ≤ j → σ'.2.1 17 s 0 j = σ.2.1 17 s 0 j) z FU (iI 0, σ) ⟨rfl, hH, hX, Ag.rf, fun j hj => absurd hj (Nat.not_lt_zero j), fun _ _ => rfl⟩ ?_ ?_ (Nat.lt_of_le_of_lt hz4 (by decide))
  · intro d a hd hI
    obtain ⟨a1, a2⟩ := a
    obtain ⟨rfl, i2, i3, i4, i5, i6⟩ := hI
    have i2 : XH a2 0 v := i2
    have i3 : XR a2 3 0 (rgF v r d) := i3
    have i4 : Ag (fun t i j => PP t i j ∨ (t = 17 ∧ i = s ∧ j = 0)) σ a2 := i4
    have i5 : ∀ j, j < d → a2.2.1 17 s 0 j = bkK v r (σ.1 3 s 0 0) j := i5
    have i6 : ∀ j, d ≤ j → a2.2.1 17 s 0 j = σ.2.1 17 s 0 j := i6
    have e3 : a2.1 3 s 0 = σ.1 3 s 0 := (i4 3 s 0 (by simp [PP, P1])).1
    have hp := x_put (σ := a2) (s := s) (i := d) (z := z) (by rw [e3]; exact hz) hd hz4 (a2.1 2 3 0 3).toInt64
    have hA : Ag (fun t i j => t = 17 ∧ i = s ∧ j = 0) a2 (upL a2 17 s 0 d (kept (a2.1 3 s 0 0) (a2.1 2 3 0 3).toInt64)) := Ag.upL ⟨rfl, rfl, rfl⟩
    obtain ⟨σ2, q1, q2, q3, q4⟩ := x_pday (i2.ag hA (by simp) (by simp)) hg hr (d := d) (by omega) (i3.ag hA (by simp))
    have hw := x_wet (i2.ag hA (by simp) (by simp)) hg (d := d) (by omega)
    have e17 : ∀ j, σ2.2.1 17 s 0 j = (upL a2 17 s 0 d (kept (a2.1 3 s 0 0) (a2.1 2 3 0 3).toInt64)).2.1 17 s 0 j := fun j => by rw [(q3 17 s 0 (by simp [PP, P1])).2.1]
    refine ⟨(iI ((d + 1 : Nat) : Int), σ2), ?_, rfl, q4, q2, (i4.tr (hA.mono (fun t i j z => Or.inr z))).tr (q3.mono (fun t i j z => Or.inl z)), fun j hj => ?_, fun j hj => ?_⟩
    · show b_X_book_44 s (iI (d : Int)) a2 = _
      unfold b_X_book_44
      rw [e3, hz, if_neg (by rw [iI_le (by omega) (by omega)]; omega), hp, b2s, hw, b2s, q1, b2s, iI_add]
      rfl
    · show σ2.2.1 17 s 0 j = _
      rw [e17, upL_1]
      by_cases e : j = d
      · rw [if_pos ⟨rfl, rfl, rfl, e⟩, e, e3, i3.2.2.2.1]
        rfl
      · rw [if_neg (fun z => e z.2.2.2)]
        exact i5 j (by omega)
    · show σ2.2.1 17 s 0 j = _
      rw [e17, upL_1, if_neg (fun z => absurd z.2.2.2 (by omega))]
      exact i6 j (by omega)
  · intro a hI
    obtain ⟨a1, a2⟩ := a
    obtain ⟨rfl, i2, i3, i4, i5, i6⟩ := hI
    have i4 : Ag (fun t i j => PP t i j ∨ (t = 17 ∧ i = s ∧ j = 0)) σ a2 := i4
    have e3 : a2.1 3 s 0 = σ.1 3 s 0 := (i4 3 s 0 (by simp [PP, P1])).1
    refine ⟨a2, ?_, i4, i5, i6⟩
    show b_X_book_44 s (iI (z : Int)) a2 = _
    unfold b_X_book_44
    rw [e3, hz, if_pos (by rw [iI_le (by omega) (by omega)]; omega)]
