/-! PURE: book, the reference -/
theorem m_book {τ : Sg} {v : Ro} (hg : GS v) (h0 : v 0 ≤ 10000) {s z c : Nat} (hs : s < 4) (hc : c < mny v) (hz : τ.1 29 0 0 s = iI (z : Int)) (hz4 : z ≤ 40) : ∃ σ', lp (fun a => b_M_book_24 (iI (s : Int)) (iI (c : Int)) a.1 a.2) FU (iI 0, sS τ v) = some σ' ∧ (∃ u, σ' = sS u (goesN v z) ∧ Ag (fun t _ _ => t = 30) τ u ∧ (∀ j, j < z → u.2.1 30 0 0 (40 * s + j) = bkK v (rug v c) (τ.1 28 0 0 s) j) ∧ ∀ q, ¬ (40 * s ≤ q ∧ q < 40 * s + z) → u.2.1 30 0 0 q = τ.2.1 30 0 0 q) := by
  have hm := mny_le hg
  refine lp_rel (fun d a => a.1 = iI (d : Int) ∧ ∃ u, a.2 = sS u (goesN v d) ∧ Ag (fun t _ _ => t = 30) τ u ∧ (∀ j, j < d → u.2.1 30 0 0 (40 * s + j) = bkK v (rug v c) (τ.1 28 0 0 s) j) ∧ ∀ q, ¬ (40 * s ≤ q ∧ q < 40 * s + d) → u.2.1 30 0 0 q = τ.2.1 30 0 0 q) (fun σ' : Sg => ∃ u, σ' = sS u (goesN v z) ∧ Ag (fun t _ _ => t = 30) τ u ∧ (∀ j, j < z → u.2.1 30 0 0 (40 * s + j) = bkK v (rug v c) (τ.1 28 0 0 s) j) ∧ ∀ q, ¬ (40 * s ≤ q ∧ q < 40 * s + z) → u.2.1 30 0 0 q = τ.2.1 30 0 0 q) z FU (iI 0, sS τ v) ⟨rfl, τ, rfl, Ag.rf, fun j hj => absurd hj (Nat.not_lt_zero j), fun _ _ => rfl⟩ ?_ ?_ (Nat.lt_of_le_of_lt hz4 (by decide))
  · intro d a hd hI
    obtain ⟨a1, a2⟩ := a
    obtain ⟨rfl, u, u1, i4, i5, i6⟩ := hI
    have u1 : a2 = sS u (goesN v d) := u1
    subst u1
    have e28 : (sS u (goesN v d)).1 28 0 0 s = τ.1 28 0 0 s := by rw [show (sS u (goesN v d)).1 28 = u.1 28 from r66_ne (by decide), (i4 28 0 0 (by simp)).1]
    have e29 : (sS u (goesN v d)).1 29 0 0 s = iI (z : Int) := by rw [show (sS u (goesN v d)).1 29 = u.1 29 from r66_ne (by decide), (i4 29 0 0 (by simp)).1, hz]
    have eg := goes_rgF (v := v) (r := rug v c) hg hc (fun i _ => rfl) (fun f _ => rfl) d (f := 3) (by decide)
    have em := m_goes (hg.goesN d (by omega)) (upL u 30 0 0 (40 * s + d) (bkK v (rug v c) (τ.1 28 0 0 s) d)) (n := 1) (by rw [goesN_0]; omega) (by decide)
    refine ⟨(iI ((d + 1 : Nat) : Int), sS (upL u 30 0 0 (40 * s + d) (bkK v (rug v c) (τ.1 28 0 0 s) d)) (goesN v (d + 1))), ?_, rfl, _, rfl, i4.tr (Ag.upL rfl), fun j hj => ?_, fun q hq => ?_⟩
    · show b_M_book_24 (iI (s : Int)) (iI (c : Int)) (iI (d : Int)) (sS u (goesN v d)) = _
      unfold b_M_book_24
      rw [rd_N hs (by decide), obs, e29, if_neg (by rw [iI_le (by omega) (by omega)]; omega), m_get3 (by omega), b2s, m_tells hs (by omega), b2s, e28, eg, upL_sS]
      show b2 (f_M_goes (iI ((1 : Nat) : Int)) (sS (upL u 30 0 0 (40 * s + d) (bkK v (rug v c) (τ.1 28 0 0 s) d)) (goesN v d))) _ = _
      rw [em, b2s, iI_add]
      rfl
    · rw [upL_1]
      by_cases e : j = d
      · rw [if_pos ⟨rfl, rfl, rfl, by omega⟩, e]
      · rw [if_neg (fun z => absurd z.2.2.2 (by omega))]
        exact i5 j (by omega)
    · rw [upL_1, if_neg (fun z => absurd z.2.2.2 (by omega))]
      exact i6 q (by omega)
  · intro a hI
    obtain ⟨a1, a2⟩ := a
    obtain ⟨rfl, u, u1, i4, i5, i6⟩ := hI
    have u1 : a2 = sS u (goesN v z) := u1
    subst u1
    have e29 : (sS u (goesN v z)).1 29 0 0 s = iI (z : Int) := by rw [show (sS u (goesN v z)).1 29 = u.1 29 from r66_ne (by decide), (i4 29 0 0 (by simp)).1, hz]
    refine ⟨sS u (goesN v z), ?_, u, rfl, i4, i5, i6⟩
    show b_M_book_24 (iI (s : Int)) (iI (c : Int)) (iI (z : Int)) (sS u (goesN v z)) = _
    unfold b_M_book_24
    rw [rd_N hs (by decide), obs, e29, if_pos (by rw [iI_le (by omega) (by omega)]; omega)]
theorem both_book (n : Nat) (a b : Int32) : Both n (f_X_book a b) (f_M_book a b) := by
  intro σ h
  obtain ⟨za, rfl, ha⟩ := toI a
  obtain ⟨zb, rfl, hb⟩ := toI b
  obtain ⟨v, kp, len, bs, h1, h2, h3, h4, h5⟩ := id h
  have g1 := h1.2.2.1
  have g9 := h1.2.2.2.1
  have f28 : ∀ k : Nat, (foS σ k).1 28 = σ.1 28 := fun k => by funext i j q; simp [foS, upI_1]
  by_cases hca : 0 ≤ za ∧ za ≤ 3
  · obtain ⟨s, hs⟩ : ∃ s : Nat, za = (s : Int) := ⟨za.toNat, by omega⟩
    subst hs
    have hs4 : s < 4 := by omega
    obtain ⟨k1, k2, ⟨z, z1, z2, z3⟩, k4⟩ := h5 s hs4
    by_cases hm : σ.1 28 0 0 s = iI 0
    · refine both_fg (k := 5) (by decide) (r := iI (-1000000006)) h ?_ ?_
      · unfold f_X_book
        rw [x_sr_miss hs4 (by rw [k1]; exact hm), b2s, if_neg (by decide), x_found5, b2s]
      · unfold f_M_book
        rw [m_ww_miss hs4 (by rw [f28]; exact hm), b2s, if_neg (by decide), m_no5, b2s]
    · have hm3 : ¬ σ.1 3 s 0 0 = iI 0 := by rw [k1]; exact hm
      by_cases hcb : 0 ≤ zb ∧ zb < v 2
      · obtain ⟨c1, c2, c3⟩ := h1.lt hcb
        have hG := g1.rg c1
        obtain ⟨σ', q1, q2, q3⟩ := x_become (w := 3) (c := 0) (h1.2.1.2 _ c1) hG (by decide) (Or.inr trivial)
        have q3 : Ag PP σ σ' := q3
        have e3 : σ'.1 3 s 0 = σ.1 3 s 0 := (q3 3 s 0 (by simp [PP, P1])).1
        obtain ⟨σ1, p1, p2, p3, p4⟩ := x_book (h1.2.1.1.pp q3) g1 hG q2 (s := s) (z := z) (by rw [e3]; exact z2) z1
        have hag : Ag (fun t i j => PP t i j ∨ (t = 17 ∧ i = s ∧ j = 0)) σ σ1 := (q3.mono (fun t i j z => Or.inl z)).tr p2
        have e20 : σ1.1 20 = σ.1 20 := by
          funext i j k
          rw [(hag 20 i j (by simp [PP, P1])).1]
        have e28 : σ1.1 28 0 0 = σ.1 28 0 0 := (hag 28 0 0 (by simp [PP, P1])).1
        have e29 : σ1.1 29 0 0 = σ.1 29 0 0 := (hag 29 0 0 (by simp [PP, P1])).1
        have a28 : (aS σ1 v).1 28 = σ1.1 28 := r66_ne (by decide)
        have a29 : (aS σ1 v).1 29 = σ1.1 29 := r66_ne (by decide)
        obtain ⟨σm, r1, u, rfl, r3, r4, r5⟩ := m_book (τ := aS σ1 v) g1 (by omega) hs4 c1 (by rw [a29, e29]; exact z3) z1
        have hu : Ag (fun t _ _ => t = 30 ∨ t = 22) σ1 u := (Ag.aS (Or.inr rfl)).tr (r3.mono (fun t i j z => Or.inl z))
        have hu20 : ∀ w : Ro, sS u v = u := fun _ => r66_self (fun j hj => by rw [(hu 20 0 0 (by simp)).1, e20]; exact h1.1 j hj)
        have hu22 : aS u v = u := r66_self (fun j hj => by rw [(r3 22 0 0 (by simp)).1]; exact r66_at hj)
        have hall : Ag (fun t i j => (PP t i j ∨ (t = 17 ∧ i = s ∧ j = 0)) ∨ t = 30 ∨ t = 22) σ u := (hag.mono (fun t i j z => Or.inl z)).tr (hu.mono (fun t i j z => Or.inr z))
        refine ⟨iI (z : Int), σ1, u, ?_, ?_, v, kp, len, bs, (h1.mono (by omega)).ag hall (by simp [PP, P1]) (by simp [PP, P1]) (by simp [PP, P1]) (by simp [PP, P1]), (h2.mono (by omega)).ag hall (by simp [PP, P1]) (by simp [PP, P1]) (by simp [PP, P1]) (by simp [PP, P1]) (by simp [PP, P1]) (by simp [PP, P1]), h3.ag hall (by simp [PP, P1]) (by simp [PP, P1]), h4.ag hall (by simp [PP, P1]) (by simp [PP, P1]) (by simp [PP, P1]) (by simp [PP, P1]), ?_⟩
        · unfold f_X_book
          rw [x_sr_ok h1 hs4 hm3 hb, b2s, if_pos hcb, if_pos rfl, rd_N hs4 (by decide), obs, rd_iI (by omega) (by omega) (by decide), obs, q1, b2s, p1, obs, (p2 3 s 0 (by simp [PP, P1])).1, e3, z2]
        · have e : f_M_book (iI (s : Int)) (iI zb) (sS σ1 v) = some (iI (z : Int), u) := by
            unfold f_M_book
            rw [m_ww_ok g1 σ1 hs4 (by rw [e28]; exact hm) hb, b2s, if_pos hcb, if_pos (by decide), m_aside, b2s, asS, c3, r1, obs]
            have eb := m_back u (goesN v z) v
            rw [asS, hu22, asS, hu22, hu20 v] at eb
            rw [eb, b2s, rd_N hs4 (by decide), obs, (hu 29 0 0 (by simp)).1, e29, z3]
          rw [MS.keep h1 e20] at e
          exact e
        · intro t ht
          obtain ⟨j1, j2, j3, j4⟩ := h5 t ht
          rw [(hall 3 t 0 (by simp [PP, P1])).1, (hall 28 0 0 (by simp [PP, P1])).1, (hall 29 0 0 (by simp [PP, P1])).1]
          refine ⟨j1, j2, j3, fun i hi => ?_⟩
          have e17 : u.2.1 17 t 0 = σ1.2.1 17 t 0 := (hu 17 t 0 (by simp)).2.1
          have e30 : (aS σ1 v).2.1 30 0 0 = σ.2.1 30 0 0 := (hag 30 0 0 (by simp [PP, P1])).2.1
          rw [e17]
          by_cases et : t = s
          · subst et
            by_cases ei : i < z
            · rw [p3 i ei, r4 i ei, a28, e28, e3, k1]
            · rw [p4 i (by omega), r5 _ (by omega), e30, (q3 17 t 0 (by simp [PP, P1])).2.1]
              exact j4 i hi
          · rw [(hag 17 t 0 (by simp [PP, P1, et])).2.1, r5 _ (by omega), e30]
            exact j4 i hi
      · refine both_fg (k := 0) (by decide) (r := iI (-1000000001)) h ?_ ?_
        · unfold f_X_book
          rw [x_sr_ok h1 hs4 hm3 hb, b2s, if_neg hcb, if_neg (by decide), x_found0, b2s]
        · have e : f_M_book (iI (s : Int)) (iI zb) (sS (foS σ 0) v) = some (iI (-1000000001), noS (sS (foS σ 0) v) 0) := by
            unfold f_M_book
            rw [m_ww_ok g1 (foS σ 0) hs4 (by rw [f28]; exact hm) hb, b2s, if_neg hcb, if_neg (by decide), m_no0, b2s]
          rw [h1.fo] at e
          exact e
  · refine both_fg (k := 0) (by decide) (r := iI (-1000000001)) h ?_ ?_
    · unfold f_X_book
      rw [x_sr_no ha hca, b2s, if_neg (by decide), x_found0, b2s]
    · unfold f_M_book
      rw [m_ww_no ha hca, b2s, if_neg (by decide), m_no0, b2s]
