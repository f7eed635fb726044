/-! PURE: sheets (side by side) -/
theorem both_fg {n k : Nat} (hk : k < 7) {α : Type} {r : α} {σ : Sg} {X M : Sg → Option (α × Sg)} (h : Inv n σ) (hX : X σ = some (r, foS σ k)) (hM : M (foS σ k) = some (r, noS (foS σ k) k)) : ∃ r σ1 σ2, X σ = some (r, σ1) ∧ M σ1 = some (r, σ2) ∧ Inv (n + 1) σ2 := ⟨_, _, _, hX, hM, (h.fo hk).mono (by omega)⟩
def kept (b : Int32) (x : Int64) : Int64 := if b = iI 8 then (((x : Int64).toInt32 : Int32).toInt8.toInt32 : Int32).toInt64 else if b = iI 16 then (((x : Int64).toInt32 : Int32).toInt16.toInt32 : Int32).toInt64 else x
theorem x_isSheet {z : Int} (hz : -2147483648 ≤ z ∧ z < 2147483648) (σ : Sg) : f_X_isSheet (iI z) σ = some (if 0 ≤ z ∧ z ≤ 3 then iI 1 else iI 0, σ) := by
  unfold f_X_isSheet
  rw [x_within _ _ _ hz (by omega) (by omega), b2s, bo_if, obs]
theorem m_isSheet {z : Int} (hz : -2147483648 ≤ z ∧ z < 2147483648) (σ : Sg) : f_M_isSheet (iI z) σ = some (if 0 ≤ z ∧ z ≤ 3 then iI 1 else iI 0, σ) := by
  unfold f_M_isSheet
  rw [m_in1 _ _ _ hz (by omega) (by omega), b2s, bo_if, obs]
theorem x_put {σ : Sg} {s i z : Nat} (hz : σ.1 3 s 0 1 = iI (z : Int)) (hi : i < z) (hz4 : z ≤ 40) (x : Int64) : f_Sheet_putNumber s (iI (i : Int)) x σ = some ((), upL σ 17 s 0 i (kept (σ.1 3 s 0 0) x)) := by
  unfold f_Sheet_putNumber kept
  rw [if_neg (by rw [iI_lt (by omega) (by omega)]; omega), hz, if_pos (by rw [iI_lt (by omega) (by omega)]; omega), rd_N (by omega) (by decide), obs, obs, obs]
  split
  · rfl
  · split <;> rfl
theorem m_tells {σ : Sg} {s i : Nat} (hs : s < 4) (hi : i < 40) (x : Int64) : f_M_tells (iI (s : Int)) (iI (i : Int)) x σ = some ((), upL σ 30 0 0 (40 * s + i) (kept (σ.1 28 0 0 s) x)) := by
  unfold f_M_tells j_M_tells_47 kept
  rw [rd_N hs (by decide), obs, obs, iI_mul, iI_add, show 40 * (s : Int) + (i : Int) = ((40 * s + i : Nat) : Int) by omega, rd_N (by omega) (by decide), obs, obs, obs]
  split
  · rfl
  · split <;> rfl
theorem upL_1 {σ : Sg} {t i j k t' i' j' k' : Nat} {v : Int64} : (upL σ t i j k v).2.1 t' i' j' k' = if t' = t ∧ i' = i ∧ j' = j ∧ k' = k then v else σ.2.1 t' i' j' k' := rfl
theorem IS.put {σ : Sg} (h : IS σ) {s i : Nat} (hs : s < 4) (hi : i < 40) (w : Int64) : IS (upL (upL σ 17 s 0 i w) 30 0 0 (40 * s + i) w) := by
  intro t ht
  obtain ⟨h1, h2, h3, h4⟩ := h t ht
  refine ⟨h1, h2, h3, fun j hj => ?_⟩
  rw [upL_1, if_neg (fun z => absurd z.1 (by decide)), upL_1, upL_1, upL_1]
  by_cases e : t = s ∧ j = i
  · rw [if_pos ⟨rfl, e.1, rfl, e.2⟩, if_pos ⟨rfl, rfl, rfl, by rw [e.1, e.2]⟩]
  · rw [if_neg (fun z => e ⟨z.2.1, z.2.2.2⟩), if_neg (fun z => e (by have := z.2.2.2; omega)), if_neg (fun z => absurd z.1 (by decide))]
    exact h4 j hj
theorem Inv.put {n : Nat} {σ : Sg} (h : Inv n σ) {s i : Nat} (hs : s < 4) (hi : i < 40) (w : Int64) : Inv n (upL (upL σ 17 s 0 i w) 30 0 0 (40 * s + i) w) := by
  have ha : Ag (fun t _ _ => t = 17 ∨ t = 30) σ (upL (upL σ 17 s 0 i w) 30 0 0 (40 * s + i) w) := (Ag.upL (Or.inl rfl)).tr (Ag.upL (Or.inr rfl))
  obtain ⟨v, kp, len, bs, h1, h2, h3, h4, h5⟩ := h
  exact ⟨v, kp, len, bs, h1.ag ha (by simp) (by simp) (by simp) (by simp), h2.ag ha (by simp) (by simp) (by simp) (by simp) (by simp) (by simp), h3.ag ha (by simp) (by simp), h4.ag ha (by simp) (by simp) (by simp) (by simp), h5.put hs hi w⟩
