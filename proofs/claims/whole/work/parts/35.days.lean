/-! PURE: promises 7, 16, 26, 34 to 38 (side by side) -/
theorem IT.up6 {σ : Sg} {len : Nat} {bs : Nat → Int} (h : IT σ len bs) (x : Int32) : IT (upI σ 6 0 0 0 x) len bs := by
  unfold IT at h ⊢
  simp only [upI_1]
  simpa using h
theorem both_tear (n : Nat) : Both n f_X_tear f_M_tear := by
  intro σ h
  obtain ⟨v, kp, len, bs, h1, h2, h3, h4, h5⟩ := h
  have ha0 : Ag (fun t _ _ => t = 0) σ (upI σ 0 0 0 0 (iI 0)) := Ag.upI rfl
  have ha : Ag (fun t _ _ => t = 0 ∨ t = 6) σ (upI (upI σ 0 0 0 0 (iI 0)) 6 0 0 0 (iI 0)) := (Ag.upI (Or.inl rfl)).tr (Ag.upI (Or.inr rfl))
  have hI : Inv (n + 1) (upI (upI σ 0 0 0 0 (iI 0)) 6 0 0 0 (iI 0)) := by
    refine ⟨v, kp, len, bs, (h1.mono (by omega)).ag ha (by simp) (by simp) (by simp) (by simp), ⟨?_, Or.inl ?_⟩, h3.ag ha (by simp) (by simp), (h4.ag ha0 (by simp) (by simp) (by simp) (by simp)).up6 _, h5.ag ha (by simp) (by simp) (by simp) (by simp) (by simp)⟩
    · simp [upI_1]
    · simp [upI_1]
  have e6 : (upI σ 0 0 0 0 (iI 0)).1 6 0 0 0 = σ.1 0 0 0 0 := by
    rw [h2.1]
    simp [upI_1]
  by_cases hz : σ.1 0 0 0 0 = iI 0
  · refine ⟨iI 0, upI σ 0 0 0 0 (iI 0), _, ?_, ?_, hI⟩
    · unfold f_X_tear j_X_tear_12
      rw [if_pos hz]
    · unfold f_M_tear j_M_tear_12
      rw [e6, if_pos hz]
  · refine ⟨iI 1, upI σ 0 0 0 0 (iI 0), _, ?_, ?_, hI⟩
    · unfold f_X_tear j_X_tear_12
      rw [if_neg hz]
    · unfold f_M_tear j_M_tear_12
      rw [e6, if_neg hz]
theorem both_wipe (n : Nat) : Both n f_X_wipe f_M_wipe := by
  intro σ h
  obtain ⟨v, kp, len, bs, h1, h2, h3, h4, h5⟩ := h
  have ha0 : Ag (fun t _ _ => t = 4) σ (upI σ 4 0 0 0 (iI 0)) := Ag.upI rfl
  have ha : Ag (fun t _ _ => t = 4 ∨ t = 6) σ (upI (upI σ 4 0 0 0 (iI 0)) 6 0 0 1 (iI 0)) := (Ag.upI (Or.inl rfl)).tr (Ag.upI (Or.inr rfl))
  refine ⟨iI len, upI σ 4 0 0 0 (iI 0), upI (upI σ 4 0 0 0 (iI 0)) 6 0 0 1 (iI 0), ?_, ?_, v, kp, 0, bs, (h1.mono (by omega)).ag ha (by simp) (by simp) (by simp) (by simp), ?_, h3.ag ha (by simp) (by simp), ?_, h5.ag ha (by simp) (by simp) (by simp) (by simp) (by simp)⟩
  · unfold f_X_wipe
    rw [h4.1]
  · unfold f_M_wipe
    rw [show (upI σ 4 0 0 0 (iI 0)).1 6 0 0 1 = σ.1 6 0 0 1 by simp [upI_1], h4.2.1]
  · have k := ((h2.mono (show n ≤ n + 1 by omega)).ag ha0 (by simp) (by simp) (by simp) (by simp) (by simp) (by simp))
    have hb : Ag (fun t _ _ => t = 6) (upI σ 4 0 0 0 (iI 0)) (upI (upI σ 4 0 0 0 (iI 0)) 6 0 0 1 (iI 0)) := Ag.upI rfl
    have e6 : (upI (upI σ 4 0 0 0 (iI 0)) 6 0 0 1 (iI 0)).1 6 0 0 0 = (upI σ 4 0 0 0 (iI 0)).1 6 0 0 0 := by simp [upI_1]
    unfold IK
    rw [e6, (hb 0 0 0 (by simp)).1, (hb 21 0 0 (by simp)).1]
    exact ⟨k.1, k.2.imp id (fun q => ⟨q.1, q.2.1, q.2.2.1.ag hb (by simp) (by simp) (by simp), q.2.2.2⟩)⟩
  · refine ⟨?_, ?_, by omega, fun j hj => absurd hj (Nat.not_lt_zero j)⟩
    · simp [upI_1]
    · simp [upI_1]
theorem ageR_out {r : Ro} {w : Int} (h : 0 ≤ ageR r w 5) : 0 ≤ r 5 ∧ ageR r w 6 = r 6 := by
  by_cases ho : 0 ≤ r 5
  · refine ⟨ho, ?_⟩
    unfold ageR
    rw [if_pos ho, up_ne (by decide), up_ne (by decide)]
  · unfold ageR at h
    rw [if_neg ho, up_ne (by decide), up_ne (by decide)] at h
    exact absurd h ho
theorem goesN_mny (v : Ro) (m : Nat) : mny (goesN v m) = mny v := by
  unfold mny
  rw [goesN_hd v m (by decide) (by decide)]
theorem goesN_out (v : Ro) {c : Nat} (hc : c < mny v) : ∀ m : Nat, 0 ≤ rug (goesN v m) c 5 → 0 ≤ rug v c 5 ∧ rug (goesN v m) c 6 = rug v c 6 := by
  intro m
  induction m with
  | zero => exact fun h => ⟨h, rfl⟩
  | succ m ih =>
    intro h
    have hc' : c < mny (goesN v m) := by rw [goesN_mny]; exact hc
    rw [goesN_succ, day1_rug _ (by decide) hc'] at h
    obtain ⟨k1, k2⟩ := ageR_out h
    obtain ⟨k3, k4⟩ := ih k1
    refine ⟨k3, ?_⟩
    rw [goesN_succ, day1_rug _ (by decide) hc', k2, k4]
theorem gv_goes {n : Nat} {v : Ro} (h : GV n v) {m : Nat} (hm : v 0 + m ≤ 9999) : GV n (goesN v m) := by
  obtain ⟨g1, g2, g3, g4, g5⟩ := h
  refine ⟨g1.goesN m (by omega), by rw [goesN_0]; omega, ?_, by rw [goesN_hd v m (by decide) (by decide)]; exact g4, ?_⟩
  · intro a b ha hb oa ob e
    rw [goesN_mny] at ha hb
    obtain ⟨k1, k2⟩ := goesN_out v ha m oa
    obtain ⟨k3, k4⟩ := goesN_out v hb m ob
    rw [k2, k4] at e
    exact g3 a b ha hb k1 k3 e
  · intro a ha oa
    rw [goesN_mny] at ha
    obtain ⟨k1, k2⟩ := goesN_out v ha m oa
    rw [k2, goesN_hd v m (by decide) (by decide)]
    exact g5 a ha k1
theorem both_days (n : Nat) (a : Int32) : Both n (f_X_days a) (f_M_days a) := by
  intro σ h
  obtain ⟨za, rfl, ha⟩ := toI a
  obtain ⟨v, kp, len, bs, h1, h2⟩ := id h
  have g1 := h1.2.2.1
  have g0 := g1.1
  have g9 := h1.2.2.2.1
  by_cases hc : 1 ≤ za ∧ za ≤ 60
  · have ez : za = ((za.toNat : Nat) : Int) := by omega
    by_cases hd : v 0 + za ≤ 9999
    · obtain ⟨σ1, q1, q2, q3⟩ := x_days h1.2.1 g1 (n := za.toNat) (by omega) (by omega)
      rw [← ez] at q1
      have gg := gv_goes h1.2.2 (m := za.toNat) (by omega)
      have e20 : σ1.1 20 = σ.1 20 := by
        funext i j k
        rw [(q3 20 i j (by simp [PW])).1]
      refine ⟨iI (outS (goesN v za.toNat) : Nat), σ1, sS σ1 (goesN v za.toNat), ?_, ?_, ?_⟩
      · unfold f_X_days
        rw [x_within _ _ _ ha (by omega) (by omega), b2s, if_pos hc, if_neg (by decide), h1.2.1.1.2.1, iI_sub, if_pos (by rw [iI_le (by omega) (by omega)]; omega), q1, b2s, x_out q2 gg.1, b2s]
      · have e : f_M_days (iI za) (sS σ1 v) = some (iI (outS (goesN v za.toNat) : Nat), sS σ1 (goesN v za.toNat)) := by
          have em := m_goes g1 σ1 (n := za.toNat) (by omega) (by omega)
          rw [← ez] at em
          unfold f_M_days
          rw [m_in1 _ _ _ ha (by omega) (by omega), b2s, if_pos hc, if_neg (by decide), rd_0, obs, sS_at (by decide), iI_add, if_pos (by rw [iI_le (by omega) (by omega)]; omega), em, b2s, m_out gg.1, b2s]
        rw [MS.keep h1 e20] at e
        exact e
      · exact h.wld ((q3.mono (fun t i j z => by unfold PW at z; unfold PWl; omega)).tr (Ag.sS (Or.inl rfl))) (fun j hj => sS_at hj) (q2.ag (Ag.sS (P := fun t _ _ => t = 20) rfl) (by simp) (by simp) (by simp)) (gg.mono (by omega))
    · refine both_fo (k := 4) (by decide) h ?_ ?_
      · unfold f_X_days
        rw [x_within _ _ _ ha (by omega) (by omega), b2s, if_pos hc, if_neg (by decide), h1.2.1.1.2.1, iI_sub, if_neg (by rw [iI_le (by omega) (by omega)]; omega), x_found4, b2s]
        rfl
      · have e : f_M_days (iI za) (sS (foS σ 4) v) = some (iI (-1000000005), noS (sS (foS σ 4) v) 4) := by
          unfold f_M_days
          rw [m_in1 _ _ _ ha (by omega) (by omega), b2s, if_pos hc, if_neg (by decide), rd_0, obs, sS_at (by decide), iI_add, if_neg (by rw [iI_le (by omega) (by omega)]; omega), m_no4, b2s]
        rw [h1.fo] at e
        exact e
  · refine both_fo (k := 0) (by decide) h ?_ ?_
    · unfold f_X_days
      rw [x_within _ _ _ ha (by omega) (by omega), b2s, if_neg hc, if_pos (by decide), x_found0, b2s]
      rfl
    · have e : f_M_days (iI za) (sS (foS σ 0) v) = some (iI (-1000000001), noS (sS (foS σ 0) v) 0) := by
        unfold f_M_days
        rw [m_in1 _ _ _ ha (by omega) (by omega), b2s, if_neg hc, if_pos (by decide), m_no0, b2s]
      rw [h1.fo] at e
      exact e
/-- image -/
theorem both_image (n : Nat) : Both n f_X_image f_M_image := by
  intro σ h
  obtain ⟨v, kp, len, bs, h1, h2, h3, h4, h5⟩ := h
  obtain ⟨σ', q1, q2, q3, q4⟩ := x_worldBecome (w := 1) h1.2.1 h1.2.2.1 (by decide)
  have a1 : Ag (fun t i _ => ((t = 1 ∨ t = 2 ∨ t = 12 ∨ t = 13 ∨ t = 14) ∧ i = 1) ∨ t = 0 ∨ t = 21) σ (upI σ' 0 0 0 0 (iI 1)) := (q4.mono (fun t i j z => Or.inl z)).tr (Ag.upI (Or.inr (Or.inl rfl)))
  have a2 : Ag (fun t i _ => ((t = 1 ∨ t = 2 ∨ t = 12 ∨ t = 13 ∨ t = 14) ∧ i = 1) ∨ t = 0 ∨ t = 21) σ (r66 (upI σ' 0 0 0 0 (iI 1)) 21 ((upI σ' 0 0 0 0 (iI 1)).1 20 0 0)) := a1.tr (Ag.roI (Or.inr (Or.inr rfl)))
  have a3 : Ag (fun t i _ => ((t = 1 ∨ t = 2 ∨ t = 12 ∨ t = 13 ∨ t = 14) ∧ i = 1) ∨ t = 0 ∨ t = 21 ∨ t = 6) σ (upI (r66 (upI σ' 0 0 0 0 (iI 1)) 21 ((upI σ' 0 0 0 0 (iI 1)).1 20 0 0)) 6 0 0 0 (iI 1)) := (a2.mono (fun t i j z => by omega)).tr (Ag.upI (by simp))
  have a4 : Ag (fun t _ _ => t = 0 ∨ t = 21 ∨ t = 6) σ' (upI (r66 (upI σ' 0 0 0 0 (iI 1)) 21 ((upI σ' 0 0 0 0 (iI 1)).1 20 0 0)) 6 0 0 0 (iI 1)) := ((Ag.upI (by simp)).tr (Ag.roI (by simp))).tr (Ag.upI (by simp))
  refine ⟨iI 1, upI σ' 0 0 0 0 (iI 1), upI (r66 (upI σ' 0 0 0 0 (iI 1)) 21 ((upI σ' 0 0 0 0 (iI 1)).1 20 0 0)) 6 0 0 0 (iI 1), ?_, ?_, v, v, len, bs, (h1.mono (by omega)).ag a3 (by simp) (by simp) (by simp) (by simp), ?_, h3.ag a3 (by simp) (by simp), (h4.ag a2 (by simp) (by simp) (by simp) (by simp)).up6 _, h5.ag a3 (by simp) (by simp) (by simp) (by simp) (by simp)⟩
  · unfold f_X_image
    rw [q1, b2s]
  · unfold f_M_image
    rw [copy66 (t := 20) (u := 21) (by decide) b_M_image_2 rfl, obs]
  · have e0 : (upI (r66 (upI σ' 0 0 0 0 (iI 1)) 21 ((upI σ' 0 0 0 0 (iI 1)).1 20 0 0)) 6 0 0 0 (iI 1)).1 0 0 0 0 = iI 1 := by
      rw [upI_1, if_neg (by decide), r66_ne (by decide), upI_1, if_pos ⟨rfl, rfl, rfl, rfl⟩]
    have e6 : (upI (r66 (upI σ' 0 0 0 0 (iI 1)) 21 ((upI σ' 0 0 0 0 (iI 1)).1 20 0 0)) 6 0 0 0 (iI 1)).1 6 0 0 0 = iI 1 := by
      rw [upI_1, if_pos ⟨rfl, rfl, rfl, rfl⟩]
    refine ⟨by rw [e0, e6], Or.inr ⟨e6, fun j hj => ?_, q2.ag a4 (by simp) (by simp) (by simp), h1.2.2.mono (by omega)⟩⟩
    rw [upI_1, if_neg (fun z => absurd z.1 (by decide)), r66_at hj, (a1 20 0 0 (by simp)).1]
    exact h1.1 j hj
/-- undo -/
theorem both_undo (n : Nat) : Both n f_X_undo f_M_undo := by
  intro σ h
  obtain ⟨v, kp, len, bs, h1, h2, h3, h4, h5⟩ := id h
  by_cases hz : σ.1 0 0 0 0 = iI 0
  · refine both_fo (k := 3) (by decide) h ?_ ?_
    · unfold f_X_undo
      rw [if_pos hz, x_found3, b2s]
      rfl
    · unfold f_M_undo
      rw [if_pos (by rw [← hz, h2.1]; simp [foS, upI_1]), m_no3, b2s]
      rfl
  · have hk := h2.2.resolve_left (by rw [← h2.1]; exact hz)
    obtain ⟨k1, k2, k3, k4⟩ := hk
    obtain ⟨σ', q1, q2, q3, q4⟩ := x_worldBecome (w := 0) k3 k4.1 (by decide)
    have e21 : σ'.1 21 0 0 = σ.1 21 0 0 := (q4 21 0 0 (by simp [PW])).1
    refine ⟨iI (kp 2), σ', r66 σ' 20 (σ'.1 21 0 0), ?_, ?_, ?_⟩
    · unfold f_X_undo
      rw [if_neg hz, q1, b2s, q2.1.1]
    · unfold f_M_undo
      rw [if_neg (by rw [(q4 6 0 0 (by simp [PW])).1, k1]; decide), copy66 (t := 21) (u := 20) (by decide) b_M_undo_15 rfl, obs, rd_2, obs, r66_at (by decide), e21, k2 2 (by decide)]
    · exact h.wld ((q4.mono (fun t i j z => by unfold PW at z; unfold PWl; omega)).tr (Ag.roI (Or.inl rfl))) (fun j hj => by rw [r66_at hj, e21]; exact k2 j hj) (q2.ag (Ag.roI (P := fun t _ _ => t = 20) rfl) (by simp) (by simp) (by simp)) (k4.mono (by omega))
