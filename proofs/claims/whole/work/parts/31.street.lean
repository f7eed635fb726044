/-! PURE: promises 3, 5, 6, 7 -/
def PWl : Nat → Nat → Nat → Prop := fun t i _ => t = 20 ∨ t = 22 ∨ t = 31 ∨ t = 13 ∨ t = 14 ∨ ((t = 1 ∨ t = 2 ∨ t = 12) ∧ i ≠ 1)
theorem Fr_PWl {t i j : Nat} (h : Fr t i j) : PWl t i j := by
  unfold Fr at h
  unfold PWl
  omega
theorem Inv.wld {n : Nat} {σ σ' : Sg} {v' : Ro} (h : Inv n σ) (ha : Ag PWl σ σ') (hM : ∀ j, j < 66 → σ'.1 20 0 0 j = iI (v' j)) (hX : XW σ' 0 v') (hG : GV (n + 1) v') : Inv (n + 1) σ' := by
  obtain ⟨v, kp, len, bs, h1, h2, h3, h4, h5⟩ := h
  exact ⟨v', kp, len, bs, ⟨hM, hX, hG⟩, (h2.mono (by omega)).ag ha (by simp [PWl]) (by simp [PWl]) (by simp [PWl]) (by simp [PWl]) (by simp [PWl]) (by simp [PWl]), h3.ag ha (by simp [PWl]) (by simp [PWl]), h4.ag ha (by simp [PWl]) (by simp [PWl]) (by simp [PWl]) (by simp [PWl]), h5.ag ha (by simp [PWl]) (by simp [PWl]) (by simp [PWl]) (by simp [PWl]) (by simp [PWl])⟩
/-- a question on both sides -/
theorem both_q {n : Nat} {α : Type} {σ σ1 σ2 : Sg} {r : α} {X M : Sg → Option (α × Sg)} (h : Inv n σ) (hX : X σ = some (r, σ1)) (h1 : Ag Fr σ σ1) (hM : M σ1 = some (r, σ2)) (h2 : Ag Fr σ1 σ2) : ∃ r σ1 σ2, X σ = some (r, σ1) ∧ M σ1 = some (r, σ2) ∧ Inv (n + 1) σ2 := ⟨r, σ1, σ2, hX, hM, (h.fr (h1.tr h2)).mono (by omega)⟩
theorem IW.fr {n : Nat} {σ σ1 : Sg} {v : Ro} (h : IW n σ v) (h1 : Ag Fr σ σ1) : IW n σ1 v := h.ag h1 (by simp [Fr]) (by simp [Fr]) (by simp [Fr]) (by simp [Fr])
theorem both_yard (n : Nat) (a b : Int32) : Both n (f_X_yard a b) (f_M_yard a b) := by
  intro σ h
  obtain ⟨za, rfl, ha⟩ := toI a
  obtain ⟨zb, rfl, hb⟩ := toI b
  by_cases hc : (0 ≤ za ∧ za ≤ 39) ∧ (0 ≤ zb ∧ zb ≤ 2)
  · obtain ⟨hca, hcb⟩ := hc
    obtain ⟨v, kp, len, bs, h1, h2⟩ := id h
    obtain ⟨g1, g2, g3, g4, g5⟩ := h1.2.2
    have hse := h1.self
    have hX := h1.2.1
    refine both_q (σ1 := σ) (σ2 := σ) (r := if zb = 0 then iI (whose v za) else if zb = 1 then iI (top v za) else iI (accN (lieB v za) (mny v) : Nat)) h ?_ Ag.rf ?_ Ag.rf
    · unfold f_X_yard
      rw [x_within _ _ _ ha (by omega) (by omega), b2s, if_pos hca, if_neg (by decide), x_within _ _ _ hb (by omega) (by omega), b2s, if_pos hcb, if_neg (by decide), x_owner hX g1 g3 hca, x_top hX g1 g3 hca, x_setAt hX g1 hca, b2s, b2s, b2s]
      simp (disch := omega) only [iI_eq]
      split
      · rfl
      · split <;> rfl
    · have e : f_M_yard (iI za) (iI zb) (sS σ v) = some (if zb = 0 then iI (whose v za) else if zb = 1 then iI (top v za) else iI (accN (lieB v za) (mny v) : Nat), sS σ v) := by
        unfold f_M_yard
        rw [m_isY _ ha, b2s, if_pos hca, if_neg (by decide), m_in1 _ _ _ hb (by omega) (by omega), b2s, if_pos hcb, if_neg (by decide), m_setAt g1 σ hca, obs, m_whose g1 (by omega), m_top g1 (by omega), b2s, b2s]
        simp (disch := omega) only [iI_eq]
        split
        · rfl
        · split <;> rfl
      rw [hse] at e
      exact e
  · refine both_fo (k := 0) (by decide) h ?_ ?_
    · unfold f_X_yard j_X_yard_19
      rw [x_within _ _ _ ha (by omega) (by omega), b2s]
      by_cases h1 : 0 ≤ za ∧ za ≤ 39
      · rw [if_pos h1, if_neg (by decide), x_within _ _ _ hb (by omega) (by omega), b2s, if_neg (fun z => hc ⟨h1, z⟩), if_pos (by decide), x_found0, b2s]
        rfl
      · rw [if_neg h1, if_pos (by decide), x_found0, b2s]
        rfl
    · unfold f_M_yard j_M_yard_16
      rw [m_isY _ ha, b2s]
      by_cases h1 : 0 ≤ za ∧ za ≤ 39
      · rw [if_pos h1, if_neg (by decide), m_in1 _ _ _ hb (by omega) (by omega), b2s, if_neg (fun z => hc ⟨h1, z⟩), if_pos (by decide), m_no0, b2s]
        rfl
      · rw [if_neg h1, if_pos (by decide), m_no0, b2s]
        rfl
/-- borders -/
def bordN (v : Ro) : Nat → Int
  | 0 => 0
  | k + 1 => bordN v k + (if whose v k = whose v ((k : Int) + 1) then 0 else 1)
theorem bordN_succ (v : Ro) (k : Nat) : bordN v (k + 1) = bordN v k + (if whose v k = whose v ((k : Int) + 1) then 0 else 1) := rfl
theorem both_borders (n : Nat) : Both n f_X_borders f_M_borders := by
  intro σ h
  obtain ⟨v, kp, len, bs, h1, h2⟩ := id h
  obtain ⟨g1, g2, g3, g4, g5⟩ := h1.2.2
  have hse := h1.self
  have hX := h1.2.1
  refine both_q (σ1 := σ) (σ2 := σ) (r := iI (bordN v 39)) h ?_ Ag.rf ?_ Ag.rf
  · have hl : lp (fun a => b_X_borders_4 a.1 a.2.1 a.2.2) FU (iI 0, iI 0, σ) = some (iI (bordN v 39), σ) := by
      refine lp_run (fun i => (iI (bordN v i), iI (i : Int), σ)) (iI (bordN v 39), σ) 39 FU ?_ ?_ (by decide)
      · intro k hk
        have w1 := whose_rg g1 (k : Int)
        have w2 := whose_rg g1 ((k : Int) + 1)
        show b_X_borders_4 (iI (bordN v k)) (iI (k : Int)) σ = some (.inl (iI (bordN v (k + 1)), iI ((k + 1 : Nat) : Int), σ))
        unfold b_X_borders_4
        rw [if_neg (by rw [iI_le (by omega) (by omega)]; omega), x_owner hX g1 g3 (by omega), b2s, iI_add, x_owner hX g1 g3 (by omega), b2s, iI_add, bordN_succ]
        simp (disch := omega) only [iI_eq]
        split
        · rw [Int.add_zero]; rfl
        · rfl
      · show b_X_borders_4 (iI (bordN v 39)) (iI ((39 : Nat) : Int)) σ = some (.inr (iI (bordN v 39), σ))
        unfold b_X_borders_4
        rw [if_pos (by decide)]
    unfold f_X_borders
    rw [hl, obs]
  · have hl : lp (fun a => b_M_borders_4 a.1 a.2.1 a.2.2) FU (iI 0, iI 0, sS σ v) = some (iI (bordN v 39), sS σ v) := by
      refine lp_run (fun i => (iI (bordN v i), iI (i : Int), sS σ v)) (iI (bordN v 39), sS σ v) 39 FU ?_ ?_ (by decide)
      · intro k hk
        have w1 := whose_rg g1 (k : Int)
        have w2 := whose_rg g1 ((k : Int) + 1)
        show b_M_borders_4 (iI (bordN v k)) (iI (k : Int)) (sS σ v) = some (.inl (iI (bordN v (k + 1)), iI ((k + 1 : Nat) : Int), sS σ v))
        unfold b_M_borders_4
        rw [iI_add, if_neg (by rw [iI_le (by omega) (by omega)]; omega), m_whose g1 (by omega), b2s, m_whose g1 (by omega), b2s, iI_add, iI_add, bordN_succ]
        simp (disch := omega) only [iI_eq]
        split <;> rfl
      · show b_M_borders_4 (iI (bordN v 39)) (iI ((39 : Nat) : Int)) (sS σ v) = some (.inr (iI (bordN v 39), sS σ v))
        unfold b_M_borders_4
        rw [if_pos (by decide)]
    unfold f_M_borders
    rw [hse] at hl
    rw [hl, obs]
/-- the first that is not so -/
theorem first_ex {p : Nat → Prop} : ∀ N : Nat, ¬ p N → ∃ i, i ≤ N ∧ (∀ j, j < i → p j) ∧ ¬ p i := by
  intro N
  induction N using Nat.strongRecOn with
  | _ N ih =>
    intro hN
    by_cases ha : ∀ j, j < N → p j
    · exact ⟨N, Nat.le_refl _, ha, hN⟩
    · have : ∃ j, j < N ∧ ¬ p j := Classical.byContradiction (fun z => ha (fun j hj => Classical.byContradiction (fun q => z ⟨j, hj, q⟩)))
      obtain ⟨j, hj, hpj⟩ := this
      obtain ⟨i, h1, h2, h3⟩ := ih j hj hpj
      exact ⟨i, by omega, h2, h3⟩
theorem both_walk (n : Nat) (a : Int32) : Both n (f_X_walk a) (f_M_walk a) := by
  intro σ h
  obtain ⟨za, rfl, ha⟩ := toI a
  by_cases hca : 0 ≤ za ∧ za ≤ 39
  · obtain ⟨v, kp, len, bs, h1, h2⟩ := id h
    obtain ⟨g1, g2, g3, g4, g5⟩ := h1.2.2
    have hse := h1.self
    have hX := h1.2.1
    have w0 := whose_rg g1 za
    obtain ⟨u, u1, u2, u3⟩ := first_ex (p := fun i => za + i < 39 ∧ whose v (za + i + 1) = whose v za) 40 (by omega)
    obtain ⟨d, d1, d2, d3⟩ := first_ex (p := fun i => 0 < za - i ∧ whose v (za - i - 1) = whose v za) 40 (by omega)
    have hu : za + u ≤ 39 := by
      by_cases e : u = 0
      · omega
      · have := (u2 (u - 1) (by omega)).1
        omega
    have hdn : 0 ≤ za - d := by
      by_cases e : d = 0
      · omega
      · have := (d2 (d - 1) (by omega)).1
        omega
    have xu : lp (fun a => b_X_walk_28 (iI za) (iI (whose v za)) a.1 a.2) FU (iI za, σ) = some (iI (za + u), σ) := by
      have := lp_run (body := fun a => b_X_walk_28 (iI za) (iI (whose v za)) a.1 a.2) (fun i => (iI (za + i), σ)) (iI (za + u), σ) u FU ?_ ?_ (Nat.lt_of_le_of_lt u1 (by decide))
      · rw [show za + ((0 : Nat) : Int) = za by omega] at this
        exact this
      · intro i hi
        have hp := u2 i hi
        have w1 := whose_rg g1 (za + i + 1)
        show b_X_walk_28 (iI za) (iI (whose v za)) (iI (za + i)) σ = some (.inl (iI (za + ((i + 1 : Nat) : Int)), σ))
        unfold b_X_walk_28
        rw [if_neg (by rw [iI_le (by omega) (by omega)]; omega), iI_add, x_owner hX g1 g3 (by omega), b2s, if_pos (by rw [hp.2]), show za + (i : Int) + 1 = za + ((i + 1 : Nat) : Int) by omega]
      · show b_X_walk_28 (iI za) (iI (whose v za)) (iI (za + u)) σ = some (.inr (iI (za + u), σ))
        unfold b_X_walk_28
        by_cases e : 39 ≤ za + (u : Int)
        · rw [if_pos (by rw [iI_le (by omega) (by omega)]; omega)]
        · have w1 := whose_rg g1 (za + u + 1)
          rw [if_neg (by rw [iI_le (by omega) (by omega)]; omega), iI_add, x_owner hX g1 g3 (by omega), b2s, if_neg (by rw [iI_eq (by omega) (by omega)]; exact fun z => u3 ⟨by omega, z⟩)]
    have xd : lp (fun a => b_X_walk_57 (iI (whose v za)) (iI (za + u)) a.1 a.2) FU (iI za, σ) = some (iI (za - d), σ) := by
      have := lp_run (body := fun a => b_X_walk_57 (iI (whose v za)) (iI (za + u)) a.1 a.2) (fun i => (iI (za - i), σ)) (iI (za - d), σ) d FU ?_ ?_ (Nat.lt_of_le_of_lt d1 (by decide))
      · rw [show za - ((0 : Nat) : Int) = za by omega] at this
        exact this
      · intro i hi
        have hp := d2 i hi
        have w1 := whose_rg g1 (za - i - 1)
        show b_X_walk_57 (iI (whose v za)) (iI (za + u)) (iI (za - i)) σ = some (.inl (iI (za - ((i + 1 : Nat) : Int)), σ))
        unfold b_X_walk_57
        rw [if_neg (by rw [iI_le (by omega) (by omega)]; omega), iI_sub, x_owner hX g1 g3 (by omega), b2s, if_pos (by rw [hp.2]), iI_add, show za - (i : Int) + -1 = za - ((i + 1 : Nat) : Int) by omega]
      · show b_X_walk_57 (iI (whose v za)) (iI (za + u)) (iI (za - d)) σ = some (.inr (iI (za - d), σ))
        unfold b_X_walk_57
        by_cases e : za - (d : Int) ≤ 0
        · rw [if_pos (by rw [iI_le (by omega) (by omega)]; omega)]
        · have w1 := whose_rg g1 (za - d - 1)
          rw [if_neg (by rw [iI_le (by omega) (by omega)]; omega), iI_sub, x_owner hX g1 g3 (by omega), b2s, if_neg (by rw [iI_eq (by omega) (by omega)]; exact fun z => d3 ⟨by omega, z⟩)]
    have md : lp (fun a => b_M_walk_24 (iI (whose v za)) (iI za) a.1 a.2) FU (iI za, sS σ v) = some (iI (za - d), sS σ v) := by
      have := lp_run (body := fun a => b_M_walk_24 (iI (whose v za)) (iI za) a.1 a.2) (fun i => (iI (za - i), sS σ v)) (iI (za - d), sS σ v) d FU ?_ ?_ (Nat.lt_of_le_of_lt d1 (by decide))
      · rw [show za - ((0 : Nat) : Int) = za by omega] at this
        exact this
      · intro i hi
        have hp := d2 i hi
        have w1 := whose_rg g1 (za - i - 1)
        show b_M_walk_24 (iI (whose v za)) (iI za) (iI (za - i)) (sS σ v) = some (.inl (iI (za - ((i + 1 : Nat) : Int)), sS σ v))
        unfold b_M_walk_24
        rw [if_neg (by rw [iI_le (by omega) (by omega)]; omega), iI_sub, m_whose g1 (by omega), b2s, if_pos (by rw [hp.2]), iI_add, show za - (i : Int) + -1 = za - ((i + 1 : Nat) : Int) by omega]
      · show b_M_walk_24 (iI (whose v za)) (iI za) (iI (za - d)) (sS σ v) = some (.inr (iI (za - d), sS σ v))
        unfold b_M_walk_24
        by_cases e : za - (d : Int) ≤ 0
        · rw [if_pos (by rw [iI_le (by omega) (by omega)]; omega)]
        · have w1 := whose_rg g1 (za - d - 1)
          rw [if_neg (by rw [iI_le (by omega) (by omega)]; omega), iI_sub, m_whose g1 (by omega), b2s, if_neg (by rw [iI_eq (by omega) (by omega)]; exact fun z => d3 ⟨by omega, z⟩)]
    have mu : lp (fun a => b_M_walk_45 (iI (whose v za)) (iI (za - d)) a.1 a.2) FU (iI za, sS σ v) = some (iI (za + u), sS σ v) := by
      have := lp_run (body := fun a => b_M_walk_45 (iI (whose v za)) (iI (za - d)) a.1 a.2) (fun i => (iI (za + i), sS σ v)) (iI (za + u), sS σ v) u FU ?_ ?_ (Nat.lt_of_le_of_lt u1 (by decide))
      · rw [show za + ((0 : Nat) : Int) = za by omega] at this
        exact this
      · intro i hi
        have hp := u2 i hi
        have w1 := whose_rg g1 (za + i + 1)
        show b_M_walk_45 (iI (whose v za)) (iI (za - d)) (iI (za + i)) (sS σ v) = some (.inl (iI (za + ((i + 1 : Nat) : Int)), sS σ v))
        unfold b_M_walk_45
        rw [if_neg (by rw [iI_le (by omega) (by omega)]; omega), iI_add, m_whose g1 (by omega), b2s, if_pos (by rw [hp.2]), show za + (i : Int) + 1 = za + ((i + 1 : Nat) : Int) by omega]
      · show b_M_walk_45 (iI (whose v za)) (iI (za - d)) (iI (za + u)) (sS σ v) = some (.inr (iI (za + u), sS σ v))
        unfold b_M_walk_45
        by_cases e : 39 ≤ za + (u : Int)
        · rw [if_pos (by rw [iI_le (by omega) (by omega)]; omega)]
        · have w1 := whose_rg g1 (za + u + 1)
          rw [if_neg (by rw [iI_le (by omega) (by omega)]; omega), iI_add, m_whose g1 (by omega), b2s, if_neg (by rw [iI_eq (by omega) (by omega)]; exact fun z => u3 ⟨by omega, z⟩)]
    refine both_q (σ1 := σ) (σ2 := σ) (r := iI (za + u) - iI (za - d) + iI 1) h ?_ Ag.rf ?_ Ag.rf
    · unfold f_X_walk j_X_walk_54
      rw [x_within _ _ _ ha (by omega) (by omega), b2s, if_pos hca, if_neg (by decide), x_owner hX g1 g3 hca, b2s, xu, obs, xd, obs]
    · have e : f_M_walk (iI za) (sS σ v) = some (iI (za + u) - iI (za - d) + iI 1, sS σ v) := by
        unfold f_M_walk
        rw [m_isY _ ha, b2s, if_pos hca, if_neg (by decide), m_whose g1 (by omega), b2s, md, obs, mu, obs]
      rw [hse] at e
      exact e
  · refine both_fo (k := 0) (by decide) h ?_ ?_
    · unfold f_X_walk
      rw [x_within _ _ _ ha (by omega) (by omega), b2s, if_neg hca, if_pos (by decide), x_found0, b2s]
      rfl
    · unfold f_M_walk
      rw [m_isY _ ha, b2s, if_neg hca, if_pos (by decide), m_no0, b2s]
      rfl
theorem both_now (n : Nat) (a : Int32) : Both n (f_X_now a) (f_M_now a) := by
  intro σ h
  obtain ⟨za, rfl, ha⟩ := toI a
  by_cases hca : 0 ≤ za ∧ za ≤ 4
  · obtain ⟨v, kp, len, bs, h1, h2⟩ := id h
    obtain ⟨g1, g2, g3, g4, g5⟩ := h1.2.2
    have hse := h1.self
    have hX := h1.2.1
    have hwt : f_World_wetAhead 0 (iI 0) σ = some (iI (wet v), σ) := x_wet hX.1 g1 (d := 0) (by decide)
    have hsm : f_M_sumOf (iI 3) (sS σ v) = some (iI (sumN v 3 (mny v)), sS σ v) := m_sum g1 (f := 3) (by decide)
    refine both_q (σ1 := σ) (σ2 := σ) (r := if za = 0 then iI (v 0) else if za = 1 then iI (wet v) else if za = 2 then iI (v 1) else if za = 3 then iI (outS v : Nat) else iI (sumN v 3 (mny v))) h ?_ Ag.rf ?_ Ag.rf
    · unfold f_X_now
      rw [hwt, x_out hX g1, x_piles hX g1, hX.1.2.1, hX.1.2.2.1, b2s, b2s, b2s]
      simp (disch := omega) only [iI_eq]
      repeat' split
      all_goals first | rfl | (exfalso; omega)
    · have e : f_M_now (iI za) (sS σ v) = some (if za = 0 then iI (v 0) else if za = 1 then iI (wet v) else if za = 2 then iI (v 1) else if za = 3 then iI (outS v : Nat) else iI (sumN v 3 (mny v)), sS σ v) := by
        unfold f_M_now
        have hw := wet_01 g1
        rw [m_rains g1, m_out g1, hsm, rd_0, rd_1, obs, obs, sS_at (by decide), sS_at (by decide), b2s, b2s, b2s]
        simp (disch := omega) only [iI_eq]
        rcases hw with e | e <;> rw [e] <;> repeat' split
        all_goals first | rfl | (exfalso; omega)
      rw [hse] at e
      exact e
  · refine both_fo (k := 0) (by decide) h ?_ ?_
    · unfold f_X_now
      rw [x_found0, b2s]
      simp (disch := omega) only [iI_eq]
      repeat' split
      all_goals first | rfl | (exfalso; omega)
    · unfold f_M_now
      rw [m_no0, b2s]
      simp (disch := omega) only [iI_eq]
      repeat' split
      all_goals first | rfl | (exfalso; omega)
