/-! PURE: weather (side by side) -/
def flip1 (v : Ro) (k : Nat) : Ro := up v (3 + k) (1 - v (3 + k))
theorem flip1_ne {v : Ro} {k i : Nat} (h : i ≠ 3 + k) : flip1 v k i = v i := up_ne h
theorem flip1_rug {v : Ro} {k : Nat} (hk : k < 7) (c f : Nat) : rug (flip1 v k) c f = rug v c f := flip1_ne (by omega)
theorem flip1_mny {v : Ro} {k : Nat} : mny (flip1 v k) = mny v := by
  unfold mny
  rw [flip1_ne (by omega)]
theorem gs_flip {v : Ro} (h : GS v) {k : Nat} (hk : k < 7) : GS (flip1 v k) := by
  obtain ⟨h0, h1, h2, h3, h4⟩ := h
  refine ⟨by rw [flip1_ne (by omega)]; exact h0, by rw [flip1_ne (by omega)]; exact h1, by rw [flip1_ne (by omega)]; exact h2, fun i hi => ?_, fun c hc => ?_⟩
  · by_cases e : i = k
    · subst e
      show up v (3 + i) (1 - v (3 + i)) (3 + i) = 0 ∨ up v (3 + i) (1 - v (3 + i)) (3 + i) = 1
      rw [up_same]
      have := h3 i hi
      omega
    · rw [flip1_ne (by omega)]; exact h3 i hi
  · rw [flip1_ne (by omega)] at hc
    exact GR.cong (fun f _ => flip1_rug hk c f) (h4 c hc)
theorem sum3_rg {s : Ro} (h : GS s) : ∀ k : Nat, k ≤ mny s → 0 ≤ sumN s 3 k ∧ sumN s 3 k ≤ 99 * k := by
  intro k
  induction k with
  | zero => exact fun _ => ⟨by show (0 : Int) ≤ 0; omega, by show (0 : Int) ≤ _; omega⟩
  | succ k ih =>
    intro hk
    have h1 := ih (by omega)
    have h2 : 0 ≤ rug s k 3 ∧ rug s k 3 ≤ 99 := (h.rg (show k < mny s by omega)).2.2.2.1
    show 0 ≤ sumN s 3 k + rug s k 3 ∧ sumN s 3 k + rug s k 3 ≤ 99 * ((k + 1 : Nat) : Int)
    omega
theorem xw_flip {σ : Sg} {v : Ro} (h : XW σ 2 v) {k : Nat} (hk : k < 7) : XW (upI σ 12 2 0 k (iI 1 - σ.1 12 2 0 k)) 2 (flip1 v k) := by
  have ha : Ag (fun t _ _ => t = 12) σ (upI σ 12 2 0 k (iI 1 - σ.1 12 2 0 k)) := Ag.upI rfl
  refine ⟨⟨?_, ?_, ?_, fun i hi => ?_⟩, fun c hc => ?_⟩
  · rw [(ha 1 2 0 (by simp)).1, flip1_ne (by omega)]; exact h.1.1
  · rw [(ha 1 2 0 (by simp)).1, flip1_ne (by omega)]; exact h.1.2.1
  · rw [(ha 1 2 0 (by simp)).1, flip1_ne (by omega)]; exact h.1.2.2.1
  · rw [upI_1]
    by_cases e : i = k
    · subst e
      rw [if_pos ⟨rfl, rfl, rfl, rfl⟩, h.1.2.2.2 i hi, iI_sub]
      exact congrArg iI up_same.symm
    · rw [if_neg (fun z => e z.2.2.2), flip1_ne (by omega)]; exact h.1.2.2.2 i hi
  · rw [flip1_mny] at hc
    exact ((h.2 c hc).ag ha (by simp)).cong (fun f _ => flip1_rug hk c f)
theorem both_weather (n : Nat) (a : Int32) : Both n (f_X_weather a) (f_M_weather a) := by
  intro σ h
  obtain ⟨za, rfl, ha⟩ := toI a
  obtain ⟨v, kp, len, bs, h1, h2⟩ := id h
  have g1 := h1.2.2.1
  have g9 := h1.2.2.2.1
  by_cases hca : 1 ≤ za ∧ za ≤ 60
  · have ez : za = ((za.toNat : Nat) : Int) := by omega
    have hgs : ∀ k : Nat, k < 7 → GS (goesN (flip1 v k) za.toNat) := fun k hk => (gs_flip g1 hk).goesN _ (by rw [flip1_ne (by omega)]; omega)
    have hP : ∃ D : Nat → Nat, ∀ k : Nat, D k ≤ 1000 ∧ (k < 7 → sumN (goesN (flip1 v k) za.toNat) 3 (mny (goesN (flip1 v k) za.toNat)) = (D k : Int)) := by
      refine ⟨fun k => if k < 7 then (sumN (goesN (flip1 v k) za.toNat) 3 (mny (goesN (flip1 v k) za.toNat))).toNat else 0, fun k => ?_⟩
      by_cases hk : k < 7
      · have e1 := sum3_rg (hgs k hk) _ (Nat.le_refl _)
        have e2 := mny_le (hgs k hk)
        dsimp only
        rw [if_pos hk]
        exact ⟨by omega, fun _ => by omega⟩
      · dsimp only
        rw [if_neg hk]
        exact ⟨by omega, fun z => absurd z hk⟩
    obtain ⟨D, hD⟩ := hP
    have hr := bst_rg (D := D) (B := 1000) (fun k => (hD k).1)
    have hX : ∃ b, lp (fun a => b_X_weather_24 (iI za) a.1 a.2.1 a.2.2.1 a.2.2.2) FU (iI 0, iI (-1), iI 0, σ) = some b ∧ (b.1 = iI (bst D 7).1 ∧ Ag (PW 2) σ b.2) := by
      refine lp_rel (fun i a => a.1 = iI (bst D i).1 ∧ a.2.1 = iI (bst D i).2 ∧ a.2.2.1 = iI (i : Int) ∧ Ag (PW 2) σ a.2.2.2) (fun b : Int32 × Sg => b.1 = iI (bst D 7).1 ∧ Ag (PW 2) σ b.2) 7 FU (iI 0, iI (-1), iI 0, σ) ⟨rfl, rfl, rfl, Ag.rf⟩ ?_ ?_ (by decide)
      · intro k a hk hI
        obtain ⟨a1, a2, a3, a4⟩ := a
        obtain ⟨rfl, rfl, rfl, i4⟩ := hI
        have i4 : Ag (PW 2) σ a4 := i4
        obtain ⟨k1, k2⟩ := hD k
        have k2 := k2 hk
        have hrk := hr k
        have hW : XW a4 0 v := h1.2.1.ag i4 (by simp [PW]) (by simp [PW]) (by simp [PW])
        obtain ⟨σ', q1, q2, q2', q3⟩ := x_worldBecome (w := 2) hW g1 (by decide)
        have q4 : Ag (PW 2) σ' (upI σ' 12 2 0 k (iI 1 - σ'.1 12 2 0 k)) := Ag.upI ⟨Or.inr (Or.inr (Or.inl rfl)), rfl⟩
        obtain ⟨σ2, p1, p2, p3⟩ := x_days (xw_flip q2 hk) (gs_flip g1 hk) (n := za.toNat) (by rw [flip1_ne (by omega)]; omega) (by omega)
        rw [← ez] at p1
        refine ⟨(iI (bst D (k + 1)).1, iI (bst D (k + 1)).2, iI ((k + 1 : Nat) : Int), σ2), ?_, rfl, rfl, rfl, ((i4.tr q3).tr q4).tr p3⟩
        show b_X_weather_24 (iI za) (iI (bst D k).1) (iI (bst D k).2) (iI (k : Int)) a4 = _
        unfold b_X_weather_24
        rw [if_neg (by rw [iI_le (by omega) (by omega)]; omega), q1, b2s, rd_N hk (by decide), obs, obs, p1, b2s, x_piles p2 (hgs k hk), b2s, k2, bst_succ, iI_add]
        by_cases e : (D k : Int) ≤ (bst D k).2
        · rw [if_pos (by rw [iI_le (by omega) (by omega)]; exact e), if_pos e]
          rfl
        · rw [if_neg (by rw [iI_le (by omega) (by omega)]; exact e), if_neg e]
          rfl
      · intro a hI
        obtain ⟨a1, a2, a3, a4⟩ := a
        obtain ⟨rfl, rfl, rfl, i4⟩ := hI
        exact ⟨(iI (bst D 7).1, a4), rfl, rfl, i4⟩
    have hM : ∀ τ : Sg, lp (fun a => b_M_weather_23 (iI za) a.1 a.2.1 a.2.2.1 a.2.2.2) FU (iI 0, iI (-1), iI 0, sS τ v) = some (iI (bst D 7).1, aS (sS τ v) v) := by
      intro τ
      refine lp_run (body := fun a => b_M_weather_23 (iI za) a.1 a.2.1 a.2.2.1 a.2.2.2) (fun i => (iI (bst D i).1, iI (bst D i).2, iI (i : Int), if i = 0 then sS τ v else aS (sS τ v) v)) _ 7 FU ?_ rfl (by decide)
      intro k hk
      rw [if_neg (show ¬ k + 1 = 0 by omega)]
      show b_M_weather_23 (iI za) (iI (bst D k).1) (iI (bst D k).2) (iI (k : Int)) (if k = 0 then sS τ v else aS (sS τ v) v) = _
      have e1 : f_M_setsAside (if k = 0 then sS τ v else aS (sS τ v) v) = some ((), sS (aS τ v) v) := by
        rw [← asS]
        by_cases e : k = 0
        · rw [if_pos e]; exact m_aside τ v
        · rw [if_neg e]; exact aside2 τ v
      obtain ⟨k1, k2⟩ := hD k
      have k2 := k2 hk
      have hrk := hr k
      have em := m_goes (gs_flip g1 hk) (aS τ v) (n := za.toNat) (by rw [flip1_ne (by omega)]; omega) (by omega)
      rw [← ez] at em
      have es := m_sum (σ := aS τ v) (hgs k hk) (f := 3) (by decide)
      unfold b_M_weather_23
      rw [if_neg (by rw [iI_le (by omega) (by omega)]; omega), e1, b2s, iI_add, show 3 + (k : Int) = ((3 + k : Nat) : Int) by omega, rd_N (by omega) (by decide), obs, obs, sS_at (by omega), iI_sub, sS_up (by omega)]
      show b2 (f_M_goes (iI za) (sS (aS τ v) (flip1 v k))) _ = _
      rw [em, b2s, show f_M_sumOf (iI 3) = f_M_sumOf (iI ((3 : Nat) : Int)) from rfl, es, b2s, ← asS, m_back, b2s, k2, bst_succ]
      unfold j_M_weather_82
      rw [iI_add]
      by_cases e : (D k : Int) ≤ (bst D k).2
      · rw [if_pos (by rw [iI_le (by omega) (by omega)]; exact e), if_pos (by rw [iI_le (by omega) (by omega)]; exact e), if_pos e]
        rfl
      · rw [if_neg (by rw [iI_le (by omega) (by omega)]; exact e), if_neg (by rw [iI_le (by omega) (by omega)]; exact e), if_neg e]
        rfl
    obtain ⟨⟨b, σ1⟩, p1, p2, hag⟩ := hX
    have p2 : b = iI (bst D 7).1 := p2
    subst p2
    have hag : Ag (PW 2) σ σ1 := hag
    refine both_q (σ2 := aS σ1 v) h (r := iI (bst D 7).1) (σ1 := σ1) ?_ (hag.mono (fun t i j z => PW2_Fr z)) ?_ (Ag.aS (Or.inl rfl))
    · unfold f_X_weather
      rw [x_within _ _ _ ha (by omega) (by omega), b2s, if_pos hca, if_neg (by decide), p1, obs]
    · have e : f_M_weather (iI za) (sS σ1 v) = some (iI (bst D 7).1, aS (sS σ1 v) v) := by
        unfold f_M_weather
        rw [m_in1 _ _ _ ha (by omega) (by omega), b2s, if_pos hca, if_neg (by decide), hM, obs]
      rw [MS.keep h1 (PW2_20 hag)] at e
      exact e
  · refine both_fo (k := 0) (by decide) h ?_ ?_
    · unfold f_X_weather
      rw [x_within _ _ _ ha (by omega) (by omega), b2s, if_neg hca, if_pos (by decide), x_found0, b2s]
      rfl
    · unfold f_M_weather
      rw [m_in1 _ _ _ ha (by omega) (by omega), b2s, if_neg hca, if_pos (by decide), m_no0, b2s]
      rfl
