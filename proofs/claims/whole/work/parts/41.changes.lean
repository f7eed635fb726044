/-! PURE: changes (side by side) -/
theorem uq_goes {v : Ro} (h : UQ v) (m : Nat) : UQ (goesN v m) := by
  intro a b ha hb oa ob e
  rw [goesN_mny] at ha hb
  obtain ⟨k1, k2⟩ := goesN_out v ha m oa
  obtain ⟨k3, k4⟩ := goesN_out v hb m ob
  rw [k2, k4] at e
  exact h a b ha hb k1 k3 e
theorem PW2_Fr {t i j : Nat} (h : PW 2 t i j) : Fr t i j := by
  unfold PW at h
  unfold Fr
  omega
theorem PW2_20 {σ σ' : Sg} (h : Ag (PW 2) σ σ') : σ'.1 20 = σ.1 20 := by
  funext i j k
  rw [(h 20 i j (by simp [PW])).1]
theorem m_fb2 {s : Ro} {σ : Sg} {y : Int} (hy : -1 ≤ y ∧ y ≤ 40) {o : Int} (ho : -1 ≤ o ∧ o ≤ 3) (hg : ∀ d : Nat, d ≤ 400 → GS (goesN s d)) : ∀ d : Nat, d ≤ 400 → b_M_firstBy_6 (iI 2) (iI y) (iI o) (iI d) (iI 0) (sS σ (goesN s d)) = j_M_firstBy_76 (iI 2) (iI y) (iI o) (iI d) (if decide (whose (goesN s d) y ≠ o) = true then iI 1 else iI 0) (sS σ (goesN s d)) := by
  intro d hd
  have hw := whose_rg (hg d hd) y
  unfold b_M_firstBy_6
  rw [if_neg (by rw [iI_lt (by omega) (by omega)]; omega), if_pos rfl, if_neg (by decide), if_neg (by decide), m_whose (hg d hd) hy, b2s]
  by_cases e : whose (goesN s d) y = o
  · rw [if_pos (by rw [e]), if_neg (by rw [decide_eq_true_eq]; exact fun z => z e)]
  · rw [if_neg (by rw [iI_eq (by omega) (by omega)]; exact e), if_pos (by rw [decide_eq_true_eq]; exact e)]
theorem both_changes (n : Nat) (a : Int32) : Both n (f_X_changes a) (f_M_changes a) := by
  intro σ h
  obtain ⟨za, rfl, ha⟩ := toI a
  obtain ⟨v, kp, len, bs, h1, h2⟩ := id h
  have g1 := h1.2.2.1
  have g9 := h1.2.2.2.1
  have gu := h1.2.2.2.2.1
  by_cases hca : 0 ≤ za ∧ za ≤ 39
  · obtain ⟨D, d1, d2, d3⟩ := first_ex (p := fun i => i < 401 ∧ whose (goesN v i) za = whose v za) 401 (by omega)
    have d0 : 1 ≤ D := by
      by_cases e : D = 0
      · subst e
        exact absurd ⟨by decide, rfl⟩ d3
      · omega
    have hgs : ∀ d : Nat, d ≤ 401 → GS (goesN v d) := fun d hd => g1.goesN d (by omega)
    have hwo := whose_rg g1 za
    obtain ⟨σ', q1, q2, q2', q3⟩ := x_worldBecome (w := 2) h1.2.1 g1 (by decide)
    have hl : ∃ b, lp (fun a => b_X_changes_39 (iI za) (iI (whose v za)) a.1 a.2) FU (iI 1, σ') = some b ∧ (∃ σ1, Ag (PW 2) σ' σ1 ∧ b = if D < 401 then .inl (iI (D : Int), σ1) else .inr σ1) := by
      have step : ∀ (k : Nat) (a2 : Sg), k < 400 → XW a2 2 (goesN v k) → Ag (PW 2) σ' a2 → ∃ σ2, XW σ2 2 (goesN v (k + 1)) ∧ Ag (PW 2) σ' σ2 ∧ b_X_changes_39 (iI za) (iI (whose v za)) (iI ((k + 1 : Nat) : Int)) a2 = if whose (goesN v (k + 1)) za = whose v za then some (.inl (iI ((k + 1 + 1 : Nat) : Int), σ2)) else some (.inr (.inl (iI ((k + 1 : Nat) : Int), σ2))) := by
        intro k a2 hk i3 i4
        obtain ⟨σ2, p1, p2, p3⟩ := x_days i3 (hgs k (by omega)) (n := 1) (by rw [goesN_0]; omega) (by decide)
        have p2 : XW σ2 2 (goesN v (k + 1)) := p2
        have hw := whose_rg (hgs (k + 1) (by omega)) za
        refine ⟨σ2, p2, i4.tr p3, ?_⟩
        unfold b_X_changes_39
        rw [if_neg (by rw [iI_lt (by omega) (by omega)]; omega), show f_World_passDays 2 (iI 1) = f_World_passDays 2 (iI ((1 : Nat) : Int)) from rfl, p1, b2s, x_owner p2 (hgs (k + 1) (by omega)) (uq_goes gu (k + 1)) hca, b2s, iI_add]
        by_cases e : whose (goesN v (k + 1)) za = whose v za
        · rw [if_pos (by rw [e]), if_pos e]
          rfl
        · rw [if_neg (by rw [iI_eq (by omega) (by omega)]; exact e), if_neg e]
      refine lp_rel (fun i a => a.1 = iI ((i + 1 : Nat) : Int) ∧ XW a.2 2 (goesN v i) ∧ Ag (PW 2) σ' a.2) (fun b : (Int32 × Sg) ⊕ Sg => ∃ σ1, Ag (PW 2) σ' σ1 ∧ b = if D < 401 then .inl (iI (D : Int), σ1) else .inr σ1) (D - 1) FU (iI 1, σ') ⟨rfl, q2, Ag.rf⟩ ?_ ?_ (Nat.lt_of_le_of_lt (show D - 1 ≤ 401 by omega) (by decide))
      · intro k a hk hI
        obtain ⟨a1, a2⟩ := a
        obtain ⟨rfl, i3, i4⟩ := hI
        obtain ⟨σ2, s1, s2, s3⟩ := step k a2 (by omega) i3 i4
        rw [if_pos (d2 (k + 1) (by omega)).2] at s3
        exact ⟨(iI ((k + 1 + 1 : Nat) : Int), σ2), s3, rfl, s1, s2⟩
      · intro a hI
        obtain ⟨a1, a2⟩ := a
        obtain ⟨rfl, i3, i4⟩ := hI
        by_cases hl : D < 401
        · obtain ⟨σ2, s1, s2, s3⟩ := step (D - 1) a2 (by omega) i3 i4
          rw [show D - 1 + 1 = D by omega] at s3
          rw [if_neg (fun z => d3 ⟨hl, z⟩)] at s3
          refine ⟨.inl (iI (D : Int), σ2), ?_, σ2, s2, by rw [if_pos hl]⟩
          show b_X_changes_39 (iI za) (iI (whose v za)) (iI ((D - 1 + 1 : Nat) : Int)) a2 = _
          rw [show D - 1 + 1 = D by omega]
          exact s3
        · refine ⟨.inr a2, ?_, a2, i4, by rw [if_neg hl]⟩
          show b_X_changes_39 (iI za) (iI (whose v za)) (iI ((D - 1 + 1 : Nat) : Int)) a2 = _
          unfold b_X_changes_39
          rw [if_pos (by rw [iI_lt (by omega) (by omega)]; omega)]
    obtain ⟨b, p1, σ1, p2, p3⟩ := hl
    have hag : Ag (PW 2) σ σ1 := q3.tr p2
    have hfr : Ag Fr σ σ1 := hag.mono (fun t i j z => PW2_Fr z)
    have hM : ∀ τ : Sg, f_M_firstBy (iI 2) (iI za) (iI (whose v za)) (sS (aS τ v) v) = some (iI (D : Int), aS (sS τ v) v) := by
      intro τ
      refine m_firstBy' g1 (by omega) τ (iI 2) (iI za) (iI (whose v za)) (fun d => decide (whose (goesN v d) za ≠ whose v za)) (m_fb2 (by omega) hwo (fun d hd => hgs d (by omega))) d1 (fun i hi => ?_) (fun hl => ?_)
      · rw [decide_eq_false_iff_not]; exact fun z => z (d2 i hi).2
      · rw [decide_eq_true_eq]; exact fun z => d3 ⟨hl, z⟩
    by_cases hl : D < 401
    · rw [if_pos hl] at p3
      subst p3
      refine both_q (σ2 := aS σ1 v) h (r := iI (D : Int)) (σ1 := σ1) ?_ hfr ?_ (Ag.aS (Or.inl rfl))
      · unfold f_X_changes
        rw [x_within _ _ _ ha (by omega) (by omega), b2s, if_pos hca, if_neg (by decide), x_owner h1.2.1 g1 gu hca, b2s, q1, b2s, p1, obs]
        rfl
      · have e : f_M_changes (iI za) (sS σ1 v) = some (iI (D : Int), aS (sS σ1 v) v) := by
          unfold f_M_changes f_M_orNone
          rw [m_isY _ ha, b2s, if_pos hca, if_neg (by decide), m_aside, b2s, asS, m_whose g1 (by omega), b2s, hM, b2s, if_pos (by rw [iI_le (by omega) (by omega)]; omega), b2s, asS]
        rw [MS.keep h1 (PW2_20 hag)] at e
        exact e
    · rw [if_neg hl] at p3
      subst p3
      have e20 : (foS σ1 3).1 20 = σ.1 20 := by rw [foS_20, PW2_20 hag]
      refine both_fq (k := 3) (by decide) (v := v) h hfr ?_ ?_
      · unfold f_X_changes
        rw [x_within _ _ _ ha (by omega) (by omega), b2s, if_pos hca, if_neg (by decide), x_owner h1.2.1 g1 gu hca, b2s, q1, b2s, p1, obs, se_r, x_found3, b2s]
        rfl
      · have e : f_M_changes (iI za) (sS (foS σ1 3) v) = some (iI (-1000000004), noS (aS (sS (foS σ1 3) v) v) 3) := by
          unfold f_M_changes f_M_orNone
          rw [m_isY _ ha, b2s, if_pos hca, if_neg (by decide), m_aside, b2s, asS, m_whose g1 (by omega), b2s, hM, b2s, if_neg (by rw [iI_le (by omega) (by omega)]; omega), m_no3, b2s, b2s, asS]
        rw [MS.keep h1 e20] at e
        exact e
  · refine both_fo (k := 0) (by decide) h ?_ ?_
    · unfold f_X_changes
      rw [x_within _ _ _ ha (by omega) (by omega), b2s, if_neg hca, if_pos (by decide), x_found0, b2s]
      rfl
    · unfold f_M_changes
      rw [m_isY _ ha, b2s, if_neg hca, if_pos (by decide), m_no0, b2s]
      rfl
