/-! PURE: count (side by side) -/
/-- the reference's count of bits, without the world -/
def btM : Nat → Int32 → Int32 → Option Int32
  | 0, _, _ => none
  | f + 1, c, x => if x = iI 0 then some c else btM f (c + iI 1) (x &&& (x - iI 1))
theorem btM_lp (σ : Sg) : ∀ (f m : Nat) (c x r : Int32), btM f c x = some r → f ≤ m → lp (fun a => b_M_bits_4 a.1 a.2.1 a.2.2) m (c, x, σ) = some (r, σ) := by
  intro f
  induction f with
  | zero => intro m c x r h _; exact absurd h (by show ¬ (none = some r); exact fun z => by cases z)
  | succ f ih =>
    intro m c x r h hm
    obtain ⟨m', rfl⟩ : ∃ m', m = m' + 1 := ⟨m - 1, by omega⟩
    have h : (if x = iI 0 then some c else btM f (c + iI 1) (x &&& (x - iI 1))) = some r := h
    by_cases e : x = iI 0
    · rw [if_pos e] at h
      have hb : b_M_bits_4 c x σ = some (.inr (c, σ)) := by
        unfold b_M_bits_4
        rw [if_pos e]
      unfold lp
      rw [hb]
      cases h
      rfl
    · rw [if_neg e] at h
      have hb : b_M_bits_4 c x σ = some (.inl (c + iI 1, x &&& (x - iI 1), σ)) := by
        unfold b_M_bits_4
        rw [if_neg e]
      unfold lp
      rw [hb]
      exact ih m' _ _ r h (by omega)
def zSg : Sg := (fun _ _ _ _ => 0, fun _ _ _ _ => 0, fun _ _ _ => 0)
def bcX (x : Int32) : Int32 := ((f_Integer_bitCount_0f7a4 x zSg).map Prod.fst).getD 0
theorem x_bc (x : Int32) (σ : Sg) : f_Integer_bitCount_0f7a4 x σ = some (bcX x, σ) := rfl
theorem bc_all : ∀ m : Fin 256, btM 9 (iI 0) (iI ((m.val : Nat) : Int)) = some (bcX (iI ((m.val : Nat) : Int))) := by decide +kernel
theorem m_bits {m : Nat} (hm : m < 256) (σ : Sg) : f_M_bits (iI (m : Int)) σ = some (bcX (iI (m : Int)), σ) := by
  unfold f_M_bits
  rw [btM_lp σ 9 FU _ _ _ (bc_all ⟨m, hm⟩) (by decide), obs]
theorem both_count (n : Nat) (a : Int32) : Both n (f_X_count a) (f_M_count a) := by
  intro σ h
  obtain ⟨v, kp, len, bs, h1, h2, h3, h4, h5⟩ := id h
  have g1 := h1.2.2.1
  have hse := h1.self
  have hM0 : f_M_count a σ = f_M_count a (sS σ v) := by rw [hse]
  by_cases e0 : a = iI 0
  · subst e0
    refine both_q (σ2 := σ) h (r := iI (v 2)) (σ1 := σ) ?_ Ag.rf ?_ Ag.rf
    · unfold f_X_count
      rw [if_pos rfl, h1.2.1.1.1]
    · unfold f_M_count
      rw [if_pos rfl, rd_2, obs, h1.1 2 (by decide)]
  by_cases e1 : a = iI 1
  · subst e1
    refine both_q (σ2 := σ) h (r := iI len) (σ1 := σ) ?_ Ag.rf ?_ Ag.rf
    · unfold f_X_count
      rw [if_neg e0, if_pos rfl, h4.1]
    · unfold f_M_count
      rw [if_neg e0, if_pos rfl, h4.2.1]
  by_cases e2 : a = iI 2
  · subst e2
    have ho : outS v < 256 := Nat.lt_of_lt_of_le (accN_lt (outB v) (mny v)) (Nat.pow_le_pow_right (by decide) (mny_le g1))
    refine both_q (σ2 := σ) h (r := bcX (iI (outS v : Nat))) (σ1 := σ) ?_ Ag.rf ?_ Ag.rf
    · unfold f_X_count
      rw [if_neg e0, if_neg e1, if_pos rfl, x_out h1.2.1 g1, b2s, x_bc, b2s]
    · rw [hM0]
      unfold f_M_count
      rw [if_neg e0, if_neg e1, if_pos rfl, m_out g1, b2s, m_bits ho, b2s, hse]
  by_cases e3 : a = iI 3
  · subst e3
    refine both_q (σ2 := σ) h (r := iI (sumN v 4 (mny v))) (σ1 := σ) ?_ Ag.rf ?_ Ag.rf
    · unfold f_X_count
      rw [if_neg e0, if_neg e1, if_neg e2, if_pos rfl, x_moths h1.2.1 g1, b2s]
    · rw [hM0]
      have es := m_sum (σ := σ) g1 (f := 4) (by decide)
      unfold f_M_count
      rw [if_neg e0, if_neg e1, if_neg e2, if_pos rfl, show f_M_sumOf (iI 4) = f_M_sumOf (iI ((4 : Nat) : Int)) from rfl, es, b2s, hse]
  · refine both_fo (k := 0) (by decide) h ?_ ?_
    · unfold f_X_count
      rw [if_neg e0, if_neg e1, if_neg e2, if_neg e3, x_found0, b2s]
      rfl
    · unfold f_M_count
      rw [if_neg e0, if_neg e1, if_neg e2, if_neg e3, m_no0, b2s]
      rfl
