/-! PURE: bare, enough (side by side) -/
theorem se_r {α β γ : Type} (f : α → γ) (g : β → γ) (b : β) : Sum.elim f g (Sum.inr b) = g b := rfl
theorem both_bare (n : Nat) (a : Int32) : Both n (f_X_bare a) (f_M_bare a) := by
  intro σ h
  obtain ⟨za, rfl, ha⟩ := toI a
  obtain ⟨v, kp, len, bs, h1, h2⟩ := id h
  have g1 := h1.2.2.1
  have g9 := h1.2.2.2.1
  by_cases hca : 0 ≤ za ∧ za < v 2
  · obtain ⟨c1, c2, c3⟩ := h1.lt hca
    have hR := h1.2.1.2 _ c1
    have hG := g1.rg c1
    obtain ⟨D, d1, d2, d3⟩ := first_ex (p := fun i => i < 401 ∧ rgF v (rug v za.toNat) i 3 ≠ 0) 401 (by omega)
    have eg : ∀ d : Nat, rug (goesN v d) za.toNat 3 = rgF v (rug v za.toNat) d 3 := fun d => goes_rgF (v := v) (r := rug v za.toNat) g1 c1 (fun i _ => rfl) (fun f _ => rfl) d (by decide)
    have h3 : ∀ d : Nat, 0 ≤ rgF v (rug v za.toNat) d 3 ∧ rgF v (rug v za.toNat) d 3 ≤ 99 := fun d => (gr_rgF g1 hG d).2.2.2.1
    obtain ⟨σ', q1, q2, q3⟩ := x_become (w := 3) (c := 0) hR hG (by decide) (Or.inr trivial)
    have q3 : Ag PP σ σ' := q3
    have hl : ∃ b, lp (fun a => b_X_bare_33 a.1 a.2) FU (iI 0, σ') = some b ∧ (∃ σ1, Ag PP σ' σ1 ∧ b = if D < 401 then .inl (iI (D : Int), σ1) else .inr σ1) := by
      refine lp_rel (fun i a => a.1 = iI (i : Int) ∧ XH a.2 0 v ∧ XR a.2 3 0 (rgF v (rug v za.toNat) i) ∧ Ag PP σ' a.2) (fun b : (Int32 × Sg) ⊕ Sg => ∃ σ1, Ag PP σ' σ1 ∧ b = if D < 401 then .inl (iI (D : Int), σ1) else .inr σ1) D FU (iI 0, σ') ⟨rfl, h1.2.1.1.pp q3, q2, Ag.rf⟩ ?_ ?_ (Nat.lt_of_le_of_lt d1 (by decide))
      · intro k a hk hI
        obtain ⟨a1, a2⟩ := a
        obtain ⟨rfl, i2, i3, i4⟩ := hI
        have i2 : XH a2 0 v := i2
        have i3 : XR a2 3 0 (rgF v (rug v za.toNat) k) := i3
        have i4 : Ag PP σ' a2 := i4
        have hb3 := h3 k
        obtain ⟨σ2, q1, q2, q3, q4⟩ := x_pday i2 g1 hG (d := k) (by omega) i3
        refine ⟨(iI ((k + 1 : Nat) : Int), σ2), ?_, rfl, q4, q2, i4.tr q3⟩
        show b_X_bare_33 (iI (k : Int)) a2 = _
        unfold b_X_bare_33
        rw [if_neg (by rw [iI_lt (by omega) (by omega)]; omega), i3.2.2.2.1, if_neg (by rw [iI_eq (by omega) (by omega)]; exact (d2 k hk).2), x_wet i2 g1 (by omega), b2s, q1, b2s, iI_add]
        rfl
      · intro a hI
        obtain ⟨a1, a2⟩ := a
        obtain ⟨rfl, i2, i3, i4⟩ := hI
        have i3 : XR a2 3 0 (rgF v (rug v za.toNat) D) := i3
        refine ⟨if D < 401 then .inl (iI (D : Int), a2) else .inr a2, ?_, a2, i4, rfl⟩
        show b_X_bare_33 (iI (D : Int)) a2 = _
        unfold b_X_bare_33
        by_cases hl : D < 401
        · rw [if_neg (by rw [iI_lt (by omega) (by omega)]; omega), i3.2.2.2.1, if_pos (congrArg iI (Classical.byContradiction (fun z => d3 ⟨hl, z⟩))), if_pos hl]
        · rw [if_pos (by rw [iI_lt (by omega) (by omega)]; omega), if_neg hl]
    obtain ⟨b, p1, σ1, p2, p3⟩ := hl
    have hag : Ag PP σ σ1 := Ag.tr q3 p2
    have hfr : Ag Fr σ σ1 := hag.mono (fun t i j z => PP_Fr z)
    have hM : ∀ τ : Sg, f_M_firstBy (iI 1) (iI za) (iI 0) (aS (sS τ v) v) = some (iI (D : Int), aS (sS τ v) v) := by
      intro τ
      rw [c3, asS]
      refine (m_firstBy' g1 (by omega) τ (iI 1) (iI ((za.toNat : Nat) : Int)) (iI 0) (fun d => decide (rug (goesN v d) za.toNat 3 = 0)) (m_fb1 c2 (fun d _ => ?_)) d1 (fun i hi => ?_) (fun hl => ?_)).trans (by rw [asS])
      · rw [eg d]; exact h3 d
      · rw [decide_eq_false_iff_not, eg i]; exact (d2 i hi).2
      · rw [decide_eq_true_eq, eg D]
        exact Classical.byContradiction (fun z => d3 ⟨hl, z⟩)
    by_cases hl : D < 401
    · rw [if_pos hl] at p3
      subst p3
      refine both_q (σ2 := aS σ1 v) h (r := iI (D : Int)) (σ1 := σ1) ?_ hfr ?_ (Ag.aS (Or.inl rfl))
      · unfold f_X_bare
        rw [x_isRug h1 ha, b2s, if_pos hca, if_neg (by decide), rd_iI (by omega) (by omega) (by decide), obs, q1, b2s, p1, obs]
        rfl
      · have e : f_M_bare (iI za) (sS σ1 v) = some (iI (D : Int), aS (sS σ1 v) v) := by
          unfold f_M_bare f_M_orNone
          rw [m_isC g1 _ ha, b2s, if_pos hca, if_neg (by decide), m_aside, b2s, hM, b2s, if_pos (by rw [iI_le (by omega) (by omega)]; omega), b2s]
        rw [MS.keep h1 (PP_20 hag)] at e
        exact e
    · rw [if_neg hl] at p3
      subst p3
      have e20 : (foS σ1 3).1 20 = σ.1 20 := by rw [foS_20, PP_20 hag]
      refine both_fq (k := 3) (by decide) (v := v) h hfr ?_ ?_
      · unfold f_X_bare
        rw [x_isRug h1 ha, b2s, if_pos hca, if_neg (by decide), rd_iI (by omega) (by omega) (by decide), obs, q1, b2s, p1, obs]
        rw [se_r, x_found3, b2s]
        rfl
      · have e : f_M_bare (iI za) (sS (foS σ1 3) v) = some (iI (-1000000004), noS (aS (sS (foS σ1 3) v) v) 3) := by
          unfold f_M_bare f_M_orNone
          rw [m_isC g1 _ ha, b2s, if_pos hca, if_neg (by decide), m_aside, b2s, hM, b2s, if_neg (by rw [iI_le (by omega) (by omega)]; omega), m_no3, b2s, b2s]
        rw [MS.keep h1 e20] at e
        exact e
  · refine both_fo (k := 0) (by decide) h ?_ ?_
    · unfold f_X_bare
      rw [x_isRug h1 ha, b2s, if_neg hca, if_pos (by decide), x_found0, b2s]
      rfl
    · have e : f_M_bare (iI za) (sS (foS σ 0) v) = some (iI (-1000000001), noS (sS (foS σ 0) v) 0) := by
        unfold f_M_bare
        rw [m_isC g1 _ ha, b2s, if_neg hca, if_pos (by decide), m_no0, b2s]
      rw [h1.fo] at e
      exact e
theorem aside2 (τ : Sg) (v : Ro) : f_M_setsAside (aS (sS τ v) v) = some ((), aS (sS τ v) v) := by
  rw [asS, m_aside, asS, aS_aS]
theorem both_enough (n : Nat) (a b : Int32) : Both n (f_X_enough a b) (f_M_enough a b) := by
  intro σ h
  obtain ⟨za, rfl, ha⟩ := toI a
  obtain ⟨zb, rfl, hb⟩ := toI b
  obtain ⟨v, kp, len, bs, h1, h2⟩ := id h
  have g1 := h1.2.2.1
  have g9 := h1.2.2.2.1
  by_cases hc : (0 ≤ za ∧ za < v 2) ∧ (1 ≤ zb ∧ zb ≤ 60)
  · obtain ⟨hca, hcb⟩ := hc
    obtain ⟨c1, c2, c3⟩ := h1.lt hca
    have hG := g1.rg c1
    have ez : zb = ((zb.toNat : Nat) : Int) := by omega
    have hGk : ∀ k : Nat, k < 100 → GR (up (rug v za.toNat) 3 k) := fun k hk => hG.set (by omega) (by omega) (by omega) (by omega) (by omega) (by omega) (by omega)
    obtain ⟨D, d1, d2, d3⟩ := first_ex (p := fun i => i < 100 ∧ rgF v (up (rug v za.toNat) 3 i) zb.toNat 5 < 0) 100 (by omega)
    have hX : ∃ b, lp (fun a => b_X_enough_27 (iI za) (iI zb) a.1 a.2) FU (iI 0, σ) = some b ∧ (∃ σ1, Ag PP σ σ1 ∧ b = if D < 100 then .inl (iI (D : Int), σ1) else .inr σ1) := by
      have step : ∀ (k : Nat) (a2 : Sg), k < 100 → Ag PP σ a2 → ∃ σ2, Ag PP σ σ2 ∧ b_X_enough_27 (iI za) (iI zb) (iI (k : Int)) a2 = if 0 ≤ rgF v (up (rug v za.toNat) 3 k) zb.toNat 5 then some (.inr (.inl (iI (k : Int), σ2))) else some (.inl (iI ((k + 1 : Nat) : Int), σ2)) := by
        intro k a2 hk i4
        have hR2 : XR a2 0 za.toNat (rug v za.toNat) := (h1.2.1.2 _ c1).ag i4 (by simp [PP, P1])
        obtain ⟨σ', q1, q2, q3⟩ := x_become (w := 3) (c := 0) hR2 hG (by decide) (Or.inr trivial)
        have q3 : Ag PP a2 σ' := q3
        have q4 : Ag PP σ' (upI σ' 2 3 0 3 (iI (k : Int))) := Ag.upI ⟨rfl, rfl, rfl⟩
        have q5 : XR (upI σ' 2 3 0 3 (iI (k : Int))) 3 0 (up (rug v za.toNat) 3 k) := by
          obtain ⟨x0, x1, x2, x3, x4, x5, x6⟩ := q2
          refine ⟨x0, ?_, ?_, ?_, ?_, ?_, ?_⟩
          · simp [upI_1, up, x1]
          · simp [upI_1, up, x2]
          · simp [upI_1, up]
          · simp [upI_1, up, x4]
          · simp [upI_1, up, x5]
          · intro z
            rw [upI_1, if_neg (by decide), up_ne (by decide)]
            exact x6 (by rw [up_ne (by decide)] at z; exact z)
        obtain ⟨σ2, p1, p2, p3⟩ := x_passProbe (h1.2.1.1.pp ((i4.tr q3).tr q4)) g1 (hGk k hk) (n := zb.toNat) (by omega) q5
        rw [← ez] at p1
        refine ⟨σ2, ((i4.tr q3).tr q4).tr p3, ?_⟩
        unfold b_X_enough_27
        rw [if_neg (by rw [iI_lt (by omega) (by omega)]; omega), rd_iI (by omega) (by omega) (by decide), obs, q1, b2s, p1, b2s, x_isOut p2 (gr_rgF g1 (hGk k hk) zb.toNat), b2s]
        by_cases ho : 0 ≤ rgF v (up (rug v za.toNat) 3 k) zb.toNat 5
        · rw [if_pos ho, if_neg (by decide), if_pos ho]
        · rw [if_neg ho, if_pos rfl, if_neg ho, iI_add]
          rfl
      refine lp_rel (fun i a => a.1 = iI (i : Int) ∧ Ag PP σ a.2) (fun b : (Int32 × Sg) ⊕ Sg => ∃ σ1, Ag PP σ σ1 ∧ b = if D < 100 then .inl (iI (D : Int), σ1) else .inr σ1) D FU (iI 0, σ) ⟨rfl, Ag.rf⟩ ?_ ?_ (Nat.lt_of_le_of_lt d1 (by decide))
      · intro k a hk hI
        obtain ⟨a1, a2⟩ := a
        obtain ⟨rfl, i4⟩ := hI
        obtain ⟨σ2, s1, s2⟩ := step k a2 (by omega) i4
        rw [if_neg (by have := (d2 k hk).2; omega)] at s2
        exact ⟨(iI ((k + 1 : Nat) : Int), σ2), s2, rfl, s1⟩
      · intro a hI
        obtain ⟨a1, a2⟩ := a
        obtain ⟨rfl, i4⟩ := hI
        by_cases hl : D < 100
        · obtain ⟨σ2, s1, s2⟩ := step D a2 hl i4
          rw [if_pos (Int.not_lt.mp (fun z => d3 ⟨hl, z⟩))] at s2
          exact ⟨_, s2, σ2, s1, by rw [if_pos hl]⟩
        · refine ⟨.inr a2, ?_, a2, i4, by rw [if_neg hl]⟩
          show b_X_enough_27 (iI za) (iI zb) (iI (D : Int)) a2 = _
          unfold b_X_enough_27
          rw [if_pos (by rw [iI_lt (by omega) (by omega)]; omega)]
    have hM : ∀ τ : Sg, lp (fun a => b_M_enough_26 (iI za) (iI zb) a.1 a.2) FU (iI 0, sS τ v) = some (if D < 100 then .inl (iI (D : Int), aS (sS τ v) v) else .inr (aS (sS τ v) v)) := by
      intro τ
      have step : ∀ (k : Nat) (t : Sg), k < 100 → (t = sS τ v ∨ t = aS (sS τ v) v) → b_M_enough_26 (iI za) (iI zb) (iI (k : Int)) t = if 0 ≤ rgF v (up (rug v za.toNat) 3 k) zb.toNat 5 then some (.inr (.inl (iI (k : Int), aS (sS τ v) v))) else some (.inl (iI ((k + 1 : Nat) : Int), aS (sS τ v) v)) := by
        intro k t hk ht
        have e1 : f_M_setsAside t = some ((), aS (sS τ v) v) := by
          rcases ht with rfl | rfl
          · exact m_aside τ v
          · exact aside2 τ v
        have gs : GS (setRug v za.toNat (up (rug v za.toNat) 3 k)) := g1.set (hGk k hk)
        have e0 : setRug v za.toNat (up (rug v za.toNat) 3 k) 0 = v 0 := setRug_hd (by decide)
        have em := m_goes gs (aS τ v) (n := zb.toNat) (by rw [e0]; omega) (by omega)
        rw [← ez] at em
        have eg := goes_rgF (v := v) (r := up (rug v za.toNat) 3 k) gs (c := za.toNat) (by rw [mny_hd (fun i hi => setRug_hd hi)]; exact c1) (fun i hi => setRug_hd hi) (fun f hf => setRug_at hf) zb.toNat (f := 5) (by decide)
        have hb5 := (gr_rgF g1 (hGk k hk) zb.toNat).2.2.2.2.2.1
        unfold b_M_enough_26 j_M_enough_62
        rw [if_neg (by rw [iI_le (by omega) (by omega)]; omega), e1, b2s, asS]
        rw [c3, m_puts3 c2, b2s, up_set (f := 3) (by decide), em, b2s, m_get5 c2, b2s, eg, ← asS, m_back, b2s, ← c3]
        by_cases ho : 0 ≤ rgF v (up (rug v za.toNat) 3 k) zb.toNat 5
        · rw [if_neg (by rw [iI_lt (by omega) (by omega)]; omega), b2s, if_neg (by decide), if_pos ho, asS]
        · rw [if_pos (by rw [iI_lt (by omega) (by omega)]; omega), if_pos rfl, if_neg ho, iI_add, asS]
          rfl
      refine lp_run (body := fun a => b_M_enough_26 (iI za) (iI zb) a.1 a.2) (fun i => (iI (i : Int), if i = 0 then sS τ v else aS (sS τ v) v)) _ D FU ?_ ?_ (Nat.lt_of_le_of_lt d1 (by decide))
      · intro k hk
        have s2 := step k (if k = 0 then sS τ v else aS (sS τ v) v) (by omega) (by by_cases e : k = 0; exact Or.inl (if_pos e); exact Or.inr (if_neg e))
        rw [if_neg (show ¬ 0 ≤ rgF v (up (rug v za.toNat) 3 k) zb.toNat 5 by have := (d2 k hk).2; omega)] at s2
        rw [if_neg (show ¬ k + 1 = 0 by omega)]
        exact s2
      · by_cases hl : D < 100
        · have s2 := step D (if D = 0 then sS τ v else aS (sS τ v) v) hl (by by_cases e : D = 0; exact Or.inl (if_pos e); exact Or.inr (if_neg e))
          rw [if_pos (Int.not_lt.mp (fun z => d3 ⟨hl, z⟩))] at s2
          rw [if_pos hl]
          exact s2
        · rw [if_neg hl, if_neg (show ¬ D = 0 by omega)]
          show b_M_enough_26 (iI za) (iI zb) (iI (D : Int)) (aS (sS τ v) v) = _
          unfold b_M_enough_26
          rw [if_pos (by rw [iI_le (by omega) (by omega)]; omega)]
    obtain ⟨b, p1, σ1, hag, p3⟩ := hX
    have hfr : Ag Fr σ σ1 := hag.mono (fun t i j z => PP_Fr z)
    by_cases hl : D < 100
    · rw [if_pos hl] at p3
      subst p3
      refine both_q (σ2 := aS σ1 v) h (r := iI (D : Int)) (σ1 := σ1) ?_ hfr ?_ (Ag.aS (Or.inl rfl))
      · unfold f_X_enough
        rw [x_isRug h1 ha, b2s, if_pos hca, if_neg (by decide), x_within _ _ _ hb (by omega) (by omega), b2s, if_pos hcb, if_neg (by decide), p1, obs]
        rfl
      · have e : f_M_enough (iI za) (iI zb) (sS σ1 v) = some (iI (D : Int), aS (sS σ1 v) v) := by
          unfold f_M_enough
          rw [m_isC g1 _ ha, b2s, if_pos hca, if_neg (by decide), m_in1 _ _ _ hb (by omega) (by omega), b2s, if_pos hcb, if_neg (by decide), hM, obs, if_pos hl]
          rfl
        rw [MS.keep h1 (PP_20 hag)] at e
        exact e
    · rw [if_neg hl] at p3
      subst p3
      have e20 : (foS σ1 3).1 20 = σ.1 20 := by rw [foS_20, PP_20 hag]
      refine both_fq (k := 3) (by decide) (v := v) h hfr ?_ ?_
      · unfold f_X_enough
        rw [x_isRug h1 ha, b2s, if_pos hca, if_neg (by decide), x_within _ _ _ hb (by omega) (by omega), b2s, if_pos hcb, if_neg (by decide), p1, obs]
        rw [se_r, x_found3, b2s]
        rfl
      · have e : f_M_enough (iI za) (iI zb) (sS (foS σ1 3) v) = some (iI (-1000000004), noS (aS (sS (foS σ1 3) v) v) 3) := by
          unfold f_M_enough
          rw [m_isC g1 _ ha, b2s, if_pos hca, if_neg (by decide), m_in1 _ _ _ hb (by omega) (by omega), b2s, if_pos hcb, if_neg (by decide), hM, obs, if_neg hl]
          rw [se_r, m_no3, b2s]
        rw [MS.keep h1 e20] at e
        exact e
  · refine both_fo (k := 0) (by decide) h ?_ ?_
    · unfold f_X_enough j_X_enough_18
      rw [x_isRug h1 ha, b2s]
      by_cases k1 : 0 ≤ za ∧ za < v 2
      · rw [if_pos k1, if_neg (by decide), x_within _ _ _ hb (by omega) (by omega), b2s, if_neg (fun z => hc ⟨k1, z⟩), if_pos (by decide), x_found0, b2s]
        rfl
      · rw [if_neg k1, if_pos (by decide), x_found0, b2s]
        rfl
    · have e : f_M_enough (iI za) (iI zb) (sS (foS σ 0) v) = some (iI (-1000000001), noS (sS (foS σ 0) v) 0) := by
        unfold f_M_enough j_M_enough_18
        rw [m_isC g1 _ ha, b2s]
        by_cases k1 : 0 ≤ za ∧ za < v 2
        · rw [if_pos k1, if_neg (by decide), m_in1 _ _ _ hb (by omega) (by omega), b2s, if_neg (fun z => hc ⟨k1, z⟩), if_pos (by decide), m_no0, b2s]
        · rw [if_neg k1, if_pos (by decide), m_no0, b2s]
      rw [h1.fo] at e
      exact e
