/-! PURE: the first day that .. (side by side) -/
theorem foS_aS (σ : Sg) (v : Ro) (k : Nat) : aS (foS σ k) v = foS (aS σ v) k := by
  refine sg_ext ?_ rfl
  intro t i j q
  by_cases ht : t = 22
  · subst ht
    have e1 : (foS (aS σ v) k).1 22 i j q = (aS σ v).1 22 i j q := by simp [foS, upI_1]
    rw [e1]
    show (if 22 = 22 ∧ i = 0 ∧ j = 0 then (if q < 66 then iI (v q) else (foS σ k).1 22 0 0 q) else (foS σ k).1 22 i j q) = (if 22 = 22 ∧ i = 0 ∧ j = 0 then (if q < 66 then iI (v q) else σ.1 22 0 0 q) else σ.1 22 i j q)
    simp [foS, upI_1]
  · have e1 : (aS (foS σ k) v).1 t = (foS σ k).1 t := r66_ne ht
    have e2 : (aS σ v).1 18 = σ.1 18 := r66_ne (by decide)
    have e3 : (aS σ v).1 t = σ.1 t := r66_ne ht
    rw [e1]
    show (if t = 18 ∧ i = 0 ∧ j = 0 ∧ q = k then σ.1 18 0 0 k + iI 1 else σ.1 t i j q) = (if t = 18 ∧ i = 0 ∧ j = 0 ∧ q = k then (aS σ v).1 18 0 0 k + iI 1 else (aS σ v).1 t i j q)
    rw [e2, e3]
/-- both tell a finding, after looking -/
theorem both_fq {n k : Nat} (hk : k < 7) {σ σ1 : Sg} {v : Ro} {X M : Sg → Option (Int32 × Sg)} (h : Inv n σ) (ha : Ag Fr σ σ1) (hX : X σ = some (iI (-1000000001 - k), foS σ1 k)) (hM : M (foS σ1 k) = some (iI (-1000000001 - k), noS (aS (foS σ1 k) v) k)) : ∃ r σ1 σ2, X σ = some (r, σ1) ∧ M σ1 = some (r, σ2) ∧ Inv (n + 1) σ2 := by
  refine ⟨_, _, _, hX, hM, ?_⟩
  rw [foS_aS]
  exact ((h.fr (ha.tr (Ag.aS (Or.inl rfl)))).fo hk).mono (by omega)
theorem m_firstBy {s : Ro} (h : GS s) (hd : s 0 ≤ 10000) (σ : Sg) (x1 x2 x3 : Int32) (p : Nat → Bool) (H : ∀ d : Nat, d ≤ 400 → b_M_firstBy_6 x1 x2 x3 (iI d) (iI 0) (sS σ (goesN s d)) = j_M_firstBy_76 x1 x2 x3 (iI d) (if p d = true then iI 1 else iI 0) (sS σ (goesN s d))) {D : Nat} (hD : D ≤ 401) (h1 : ∀ i, i < D → p i = false) (h2 : D < 401 → p D = true) : lp (fun a => b_M_firstBy_6 x1 x2 x3 a.1 a.2.1 a.2.2) FU (iI 0, iI 0, sS σ s) = some (iI (D : Int), sS σ (goesN s D)) := by
  have hstep : ∀ i : Nat, i < D → b_M_firstBy_6 x1 x2 x3 (iI i) (iI 0) (sS σ (goesN s i)) = some (.inl (iI ((i + 1 : Nat) : Int), iI 0, sS σ (goesN s (i + 1)))) := by
    intro i hi
    rw [H i (by omega), h1 i hi, if_neg (show ¬ (false = true) by decide)]
    unfold j_M_firstBy_76 j_M_firstBy_89
    have em := m_goes (h.goesN i (by omega)) σ (n := 1) (by rw [goesN_0]; omega) (by decide)
    rw [if_pos rfl, show f_M_goes (iI 1) = f_M_goes (iI ((1 : Nat) : Int)) from rfl, em, b2s, if_pos rfl, iI_add]
    rfl
  by_cases hl : D < 401
  · have := lp_run (body := fun a => b_M_firstBy_6 x1 x2 x3 a.1 a.2.1 a.2.2) (fun i => if i ≤ D then (iI (i : Int), iI 0, sS σ (goesN s i)) else (iI (D : Int), iI 1, sS σ (goesN s D))) (iI (D : Int), sS σ (goesN s D)) (D + 1) FU ?_ ?_ (Nat.lt_of_le_of_lt (show D + 1 ≤ 402 by omega) (by decide))
    · exact this
    · intro i hi
      by_cases e : i = D
      · subst e
        rw [if_pos (Nat.le_refl _), if_neg (by omega)]
        show b_M_firstBy_6 x1 x2 x3 (iI (i : Int)) (iI 0) (sS σ (goesN s i)) = _
        rw [H i (by omega), h2 hl, if_pos (show true = true from rfl)]
        unfold j_M_firstBy_76 j_M_firstBy_89
        have em := m_goes (h.goesN i (by omega)) σ (n := 0) (by rw [goesN_0]; omega) (by decide)
        rw [if_neg (by decide), show f_M_goes (iI 0) = f_M_goes (iI ((0 : Nat) : Int)) from rfl, em, b2s, if_neg (by decide), iI_add, Int.add_zero]
        rfl
      · rw [if_pos (by omega), if_pos (by omega)]
        exact hstep i (by omega)
    · rw [if_neg (by omega)]
      show b_M_firstBy_6 x1 x2 x3 (iI (D : Int)) (iI 1) (sS σ (goesN s D)) = _
      unfold b_M_firstBy_6
      rw [if_neg (by rw [iI_lt (by omega) (by omega)]; omega), if_neg (by decide)]
  · refine lp_run (body := fun a => b_M_firstBy_6 x1 x2 x3 a.1 a.2.1 a.2.2) (fun i => (iI (i : Int), iI 0, sS σ (goesN s i))) (iI (D : Int), sS σ (goesN s D)) D FU hstep ?_ (Nat.lt_of_le_of_lt hD (by decide))
    show b_M_firstBy_6 x1 x2 x3 (iI (D : Int)) (iI 0) (sS σ (goesN s D)) = _
    unfold b_M_firstBy_6
    rw [if_pos (by rw [iI_lt (by omega) (by omega)]; omega)]
theorem m_firstBy' {s v : Ro} (h : GS s) (hd : s 0 ≤ 10000) (σ : Sg) (x1 x2 x3 : Int32) (p : Nat → Bool) (H : ∀ d : Nat, d ≤ 400 → b_M_firstBy_6 x1 x2 x3 (iI d) (iI 0) (sS (aS σ v) (goesN s d)) = j_M_firstBy_76 x1 x2 x3 (iI d) (if p d = true then iI 1 else iI 0) (sS (aS σ v) (goesN s d))) {D : Nat} (hD : D ≤ 401) (h1 : ∀ i, i < D → p i = false) (h2 : D < 401 → p D = true) : f_M_firstBy x1 x2 x3 (sS (aS σ v) s) = some (iI (D : Int), aS (sS σ v) v) := by
  unfold f_M_firstBy
  rw [m_firstBy h hd (aS σ v) x1 x2 x3 p H hD h1 h2, obs]
  unfold j_M_firstBy_110
  rw [← asS, m_back, b2s]
theorem m_fb0 {s : Ro} {σ : Sg} {c : Nat} (hc : c < 8) (h5 : ∀ d : Nat, d ≤ 400 → -1 ≤ rug (goesN s d) c 5 ∧ rug (goesN s d) c 5 ≤ 39) : ∀ d : Nat, d ≤ 400 → b_M_firstBy_6 (iI 0) (iI c) (iI 0) (iI d) (iI 0) (sS σ (goesN s d)) = j_M_firstBy_76 (iI 0) (iI c) (iI 0) (iI d) (if decide (rug (goesN s d) c 5 < 0) = true then iI 1 else iI 0) (sS σ (goesN s d)) := by
  intro d hd
  have := h5 d hd
  unfold b_M_firstBy_6
  rw [if_neg (by rw [iI_lt (by omega) (by omega)]; omega), if_pos rfl, if_pos rfl, m_get5 hc, b2s]
  by_cases ho : 0 ≤ rug (goesN s d) c 5
  · rw [if_pos (by rw [iI_le (by omega) (by omega)]; exact ho), if_neg (by rw [decide_eq_true_eq]; omega)]
  · rw [if_neg (by rw [iI_le (by omega) (by omega)]; exact ho), if_pos (by rw [decide_eq_true_eq]; omega)]
theorem m_fb1 {s : Ro} {σ : Sg} {c : Nat} (hc : c < 8) (h5 : ∀ d : Nat, d ≤ 400 → 0 ≤ rug (goesN s d) c 3 ∧ rug (goesN s d) c 3 ≤ 99) : ∀ d : Nat, d ≤ 400 → b_M_firstBy_6 (iI 1) (iI c) (iI 0) (iI d) (iI 0) (sS σ (goesN s d)) = j_M_firstBy_76 (iI 1) (iI c) (iI 0) (iI d) (if decide (rug (goesN s d) c 3 = 0) = true then iI 1 else iI 0) (sS σ (goesN s d)) := by
  intro d hd
  have := h5 d hd
  unfold b_M_firstBy_6
  rw [if_neg (by rw [iI_lt (by omega) (by omega)]; omega), if_pos rfl, if_neg (by decide), if_pos rfl, m_get3 hc, b2s]
  by_cases ho : rug (goesN s d) c 3 = 0
  · rw [if_pos (by rw [ho]), if_pos (by rw [decide_eq_true_eq]; omega)]
  · rw [if_neg (by rw [iI_eq (by omega) (by omega)]; exact ho), if_neg (by rw [decide_eq_true_eq]; omega)]
theorem x_lies {σ : Sg} {v r : Ro} (h : XH σ 0 v) (hg : GS v) (hr : GR r) (hX : XR σ 3 0 r) {D : Nat} (hD : D ≤ 401) (h1 : ∀ i, i < D → 0 ≤ rgF v r i 5) (h2 : D < 401 → ¬ 0 ≤ rgF v r D 5) : ∃ σ', f_X_daysProbeLies σ = some (iI (D : Int), σ') ∧ Ag PP σ σ' := by
  have hl : ∃ b, lp (fun a => b_X_daysProbeLies_2 a.1 a.2) FU (iI 0, σ) = some b ∧ (∃ σ', Ag PP σ σ' ∧ b = if D < 401 then .inl (iI (D : Int), σ') else .inr σ') := by
    refine lp_rel (fun i a => a.1 = iI (i : Int) ∧ XH a.2 0 v ∧ XR a.2 3 0 (rgF v r i) ∧ Ag PP σ a.2) (fun b : (Int32 × Sg) ⊕ Sg => ∃ σ', Ag PP σ σ' ∧ b = if D < 401 then .inl (iI (D : Int), σ') else .inr σ') D FU (iI 0, σ) ⟨rfl, h, hX, Ag.rf⟩ ?_ ?_ (Nat.lt_of_le_of_lt hD (by decide))
    · intro k a hk hI
      obtain ⟨a1, a2⟩ := a
      obtain ⟨rfl, i2, i3, i4⟩ := hI
      have i2 : XH a2 0 v := i2
      have i3 : XR a2 3 0 (rgF v r k) := i3
      have i4 : Ag PP σ a2 := i4
      obtain ⟨σ', q1, q2, q3, q4⟩ := x_pday i2 hg hr (d := k) (by omega) i3
      refine ⟨(iI ((k + 1 : Nat) : Int), σ'), ?_, rfl, q4, q2, i4.tr q3⟩
      show b_X_daysProbeLies_2 (iI (k : Int)) a2 = _
      unfold b_X_daysProbeLies_2
      rw [if_neg (by rw [iI_lt (by omega) (by omega)]; omega), x_isOut i3 (gr_rgF hg hr k), b2s, if_pos (h1 k hk), if_neg (by decide), x_wet i2 hg (by omega), b2s, q1, b2s, iI_add]
      rfl
    · intro a hI
      obtain ⟨a1, a2⟩ := a
      obtain ⟨rfl, i2, i3, i4⟩ := hI
      have i3 : XR a2 3 0 (rgF v r D) := i3
      refine ⟨if D < 401 then .inl (iI (D : Int), a2) else .inr a2, ?_, a2, i4, rfl⟩
      show b_X_daysProbeLies_2 (iI (D : Int)) a2 = _
      unfold b_X_daysProbeLies_2
      by_cases hl : D < 401
      · rw [if_neg (by rw [iI_lt (by omega) (by omega)]; omega), x_isOut i3 (gr_rgF hg hr D), b2s, if_neg (h2 hl), if_pos (by decide), if_pos hl]
      · rw [if_pos (by rw [iI_lt (by omega) (by omega)]; omega), if_neg hl]
  obtain ⟨b, q1, σ', q2, q3⟩ := hl
  refine ⟨σ', ?_, q2⟩
  unfold f_X_daysProbeLies
  rw [q1, obs, q3]
  by_cases hl : D < 401
  · rw [if_pos hl]
    rfl
  · rw [if_neg hl, show D = 401 by omega]
    rfl
theorem both_ends (n : Nat) (a : Int32) : Both n (f_X_ends a) (f_M_ends a) := by
  intro σ h
  obtain ⟨za, rfl, ha⟩ := toI a
  obtain ⟨v, kp, len, bs, h1, h2⟩ := id h
  have g1 := h1.2.2.1
  have g9 := h1.2.2.2.1
  by_cases hca : 0 ≤ za ∧ za < v 2
  · obtain ⟨c1, c2, c3⟩ := h1.lt hca
    have hR := h1.2.1.2 _ c1
    have hG := g1.rg c1
    obtain ⟨D, d1, d2, d3⟩ := first_ex (p := fun i => i < 401 ∧ 0 ≤ rgF v (rug v za.toNat) i 5) 401 (by omega)
    have eg : ∀ d : Nat, rug (goesN v d) za.toNat 5 = rgF v (rug v za.toNat) d 5 := fun d => goes_rgF (v := v) (r := rug v za.toNat) g1 c1 (fun i _ => rfl) (fun f _ => rfl) d (by decide)
    obtain ⟨σ', q1, q2, q3⟩ := x_become (w := 3) (c := 0) hR hG (by decide) (Or.inr trivial)
    obtain ⟨σ1, p1, p2⟩ := x_lies (h1.2.1.1.pp q3) g1 hG q2 d1 (fun i hi => (d2 i hi).2) (fun hl z => d3 ⟨hl, z⟩)
    have hag : Ag PP σ σ1 := Ag.tr q3 p2
    have hfr : Ag Fr σ σ1 := hag.mono (fun t i j z => PP_Fr z)
    have hM : ∀ τ : Sg, f_M_firstBy (iI 0) (iI za) (iI 0) (aS (sS τ v) v) = some (iI (D : Int), aS (sS τ v) v) := by
      intro τ
      rw [c3, asS]
      refine (m_firstBy' g1 (by omega) τ (iI 0) (iI ((za.toNat : Nat) : Int)) (iI 0) (fun d => decide (rug (goesN v d) za.toNat 5 < 0)) (m_fb0 c2 (fun d _ => ?_)) d1 (fun i hi => ?_) (fun hl => ?_)).trans (by rw [asS])
      · rw [eg d]; exact (gr_rgF g1 hG d).2.2.2.2.2.1
      · have := (d2 i hi).2
        rw [decide_eq_false_iff_not, eg i]; omega
      · rw [decide_eq_true_eq, eg D]
        exact Int.not_le.mp (fun z => d3 ⟨hl, z⟩)
    by_cases hl : D < 401
    · refine both_q (σ2 := aS σ1 v) h (r := iI (D : Int)) (σ1 := σ1) ?_ hfr ?_ (Ag.aS (Or.inl rfl))
      · unfold f_X_ends
        rw [x_isRug h1 ha, b2s, if_pos hca, if_neg (by decide), rd_iI (by omega) (by omega) (by decide), obs, q1, b2s, p1, b2s, if_pos (by rw [iI_le (by omega) (by omega)]; omega)]
      · have e : f_M_ends (iI za) (sS σ1 v) = some (iI (D : Int), aS (sS σ1 v) v) := by
          unfold f_M_ends f_M_orNone
          rw [m_isC g1 _ ha, b2s, if_pos hca, if_neg (by decide), m_aside, b2s, hM, b2s, if_pos (by rw [iI_le (by omega) (by omega)]; omega), b2s]
        rw [MS.keep h1 (PP_20 hag)] at e
        exact e
    · have e20 : (foS σ1 3).1 20 = σ.1 20 := by rw [foS_20, PP_20 hag]
      refine both_fq (k := 3) (by decide) (v := v) h hfr ?_ ?_
      · unfold f_X_ends
        rw [x_isRug h1 ha, b2s, if_pos hca, if_neg (by decide), rd_iI (by omega) (by omega) (by decide), obs, q1, b2s, p1, b2s, if_neg (by rw [iI_le (by omega) (by omega)]; omega), x_found3, b2s]
        rfl
      · have e : f_M_ends (iI za) (sS (foS σ1 3) v) = some (iI (-1000000004), noS (aS (sS (foS σ1 3) v) v) 3) := by
          unfold f_M_ends f_M_orNone
          rw [m_isC g1 _ ha, b2s, if_pos hca, if_neg (by decide), m_aside, b2s, hM, b2s, if_neg (by rw [iI_le (by omega) (by omega)]; omega), m_no3, b2s, b2s]
        rw [MS.keep h1 e20] at e
        exact e
  · refine both_fo (k := 0) (by decide) h ?_ ?_
    · unfold f_X_ends
      rw [x_isRug h1 ha, b2s, if_neg hca, if_pos (by decide), x_found0, b2s]
      rfl
    · have e : f_M_ends (iI za) (sS (foS σ 0) v) = some (iI (-1000000001), noS (sS (foS σ 0) v) 0) := by
        unfold f_M_ends
        rw [m_isC g1 _ ha, b2s, if_neg hca, if_pos (by decide), m_no0, b2s]
      rw [h1.fo] at e
      exact e
