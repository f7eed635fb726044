/-! PURE: read (side by side) -/
theorem x_wearsAs {σ : Sg} {v r : Ro} (hH : XH σ 0 v) (hg : GS v) (hr : GR r) (hX : XR σ 3 0 r) {s z : Nat} (hz : σ.1 3 s 0 1 = iI (z : Int)) (hz4 : z ≤ 40) {D : Nat} (hD : D ≤ z) (h1 : ∀ i, i < D → σ.2.1 17 s 0 i = (iI (rgF v r i 3)).toInt64) (h2 : D < z → ¬ σ.2.1 17 s 0 D = (iI (rgF v r D 3)).toInt64) : ∃ σ', f_X_probeWearsAs s σ = some (if D < z then iI 0 else iI 1, σ') ∧ Ag PP σ σ' := by
  have hl : ∃ b, lp (fun a => b_X_probeWearsAs_2 s a.1 a.2) FU (iI 0, σ) = some b ∧ (∃ σ', Ag PP σ σ' ∧ b = if D < z then .inl σ' else .inr σ') := by
    refine lp_rel (fun i a => a.1 = iI (i : Int) ∧ XH a.2 0 v ∧ XR a.2 3 0 (rgF v r i) ∧ Ag PP σ a.2) (fun b : Sg ⊕ Sg => ∃ σ', Ag PP σ σ' ∧ b = if D < z then .inl σ' else .inr σ') D FU (iI 0, σ) ⟨rfl, hH, hX, Ag.rf⟩ ?_ ?_ (Nat.lt_of_le_of_lt (show D ≤ 40 by omega) (by decide))
    · intro k a hk hI
      obtain ⟨a1, a2⟩ := a
      obtain ⟨rfl, i2, i3, i4⟩ := hI
      have i2 : XH a2 0 v := i2
      have i3 : XR a2 3 0 (rgF v r k) := i3
      have i4 : Ag PP σ a2 := i4
      have e3 : a2.1 3 s 0 = σ.1 3 s 0 := (i4 3 s 0 (by simp [PP, P1])).1
      have e17 : a2.2.1 17 s 0 = σ.2.1 17 s 0 := (i4 17 s 0 (by simp [PP, P1])).2.1
      obtain ⟨σ', q1, q2, q3, q4⟩ := x_pday i2 hg hr (d := k) (by omega) i3
      refine ⟨(iI ((k + 1 : Nat) : Int), σ'), ?_, rfl, q4, q2, i4.tr q3⟩
      show b_X_probeWearsAs_2 s (iI (k : Int)) a2 = _
      unfold b_X_probeWearsAs_2
      rw [e3, hz, if_neg (by rw [iI_le (by omega) (by omega)]; omega), rd_N (by omega) (by decide), obs, e17, i3.2.2.2.1, if_pos (by rw [lg_eq]; exact h1 k hk), x_wet i2 hg (by omega), b2s, q1, b2s, iI_add]
      rfl
    · intro a hI
      obtain ⟨a1, a2⟩ := a
      obtain ⟨rfl, i2, i3, i4⟩ := hI
      have i3 : XR a2 3 0 (rgF v r D) := i3
      have i4 : Ag PP σ a2 := i4
      have e3 : a2.1 3 s 0 = σ.1 3 s 0 := (i4 3 s 0 (by simp [PP, P1])).1
      have e17 : a2.2.1 17 s 0 = σ.2.1 17 s 0 := (i4 17 s 0 (by simp [PP, P1])).2.1
      refine ⟨if D < z then .inl a2 else .inr a2, ?_, a2, i4, rfl⟩
      show b_X_probeWearsAs_2 s (iI (D : Int)) a2 = _
      unfold b_X_probeWearsAs_2
      rw [e3, hz, e17]
      by_cases hl : D < z
      · rw [if_neg (by rw [iI_le (by omega) (by omega)]; omega), rd_N (by omega) (by decide), obs, i3.2.2.2.1, if_neg (by rw [lg_eq]; exact h2 hl), if_pos hl]
      · rw [if_pos (by rw [iI_le (by omega) (by omega)]; omega), if_neg hl]
  obtain ⟨b, p1, σ', p2, p3⟩ := hl
  subst p3
  refine ⟨σ', ?_, p2⟩
  unfold f_X_probeWearsAs
  rw [p1, obs]
  by_cases hl : D < z
  · rw [if_pos hl, if_pos hl]; rfl
  · rw [if_neg hl, if_neg hl]; rfl
theorem m_isSo {τ : Sg} {s0 : Ro} (hg : GS s0) (h0 : s0 0 ≤ 10000) {s z c : Nat} (hs : s < 4) (hc : c < mny s0) (hz : τ.1 29 0 0 s = iI (z : Int)) (hz4 : z ≤ 40) {D : Nat} (hD : D ≤ z) (h1 : ∀ i, i < D → τ.2.1 30 0 0 (40 * s + i) = (iI (rug (goesN s0 i) c 3)).toInt64) (h2 : D < z → ¬ τ.2.1 30 0 0 (40 * s + D) = (iI (rug (goesN s0 D) c 3)).toInt64) : ∃ w, f_M_isSo (iI (s : Int)) (iI (c : Int)) (sS τ s0) = some (if D < z then iI 0 else iI 1, sS τ w) := by
  have hm := mny_le hg
  have e29 : ∀ w, (sS τ w).1 29 0 0 s = iI (z : Int) := fun w => by rw [show (sS τ w).1 29 = τ.1 29 from r66_ne (by decide)]; exact hz
  have hstep : ∀ i : Nat, i < z → b_M_isSo_5 (iI (s : Int)) (iI (c : Int)) (iI 1) (iI (i : Int)) (sS τ (goesN s0 i)) = some (.inl (if τ.2.1 30 0 0 (40 * s + i) = (iI (rug (goesN s0 i) c 3)).toInt64 then iI 1 else iI 0, iI ((i + 1 : Nat) : Int), sS τ (goesN s0 (i + 1)))) := by
    intro i hi
    have ht : f_M_told (iI (s : Int)) (iI (i : Int)) (sS τ (goesN s0 i)) = some (τ.2.1 30 0 0 (40 * s + i), sS τ (goesN s0 i)) := by
      unfold f_M_told
      rw [iI_mul, iI_add, show 40 * (s : Int) + (i : Int) = ((40 * s + i : Nat) : Int) by omega, rd_N (by omega) (by decide), obs]
      rfl
    have em := m_goes (hg.goesN i (by omega)) τ (n := 1) (by rw [goesN_0]; omega) (by decide)
    have em : f_M_goes (iI 1) (sS τ (goesN s0 i)) = some ((), sS τ (goesN s0 (i + 1))) := em
    unfold b_M_isSo_5 j_M_isSo_43
    rw [rd_N hs (by decide), obs, e29, if_neg (by rw [iI_le (by omega) (by omega)]; omega), if_neg (by decide), ht, b2s, m_get3 (by omega), b2s, em, b2s, b2s, iI_add]
    by_cases e : τ.2.1 30 0 0 (40 * s + i) = (iI (rug (goesN s0 i) c 3)).toInt64
    · rw [if_pos (by rw [lg_eq]; exact e), if_pos e]
      rfl
    · rw [if_neg (by rw [lg_eq]; exact e), if_neg e]
      rfl
  by_cases hl : D < z
  · refine ⟨goesN s0 (D + 1), ?_⟩
    have := lp_run (body := fun a => b_M_isSo_5 (iI (s : Int)) (iI (c : Int)) a.1 a.2.1 a.2.2) (fun i => (if i ≤ D then iI 1 else iI 0, iI (i : Int), sS τ (goesN s0 i))) (iI 0, sS τ (goesN s0 (D + 1))) (D + 1) FU ?_ ?_ (Nat.lt_of_le_of_lt (show D + 1 ≤ 41 by omega) (by decide))
    · unfold f_M_isSo
      have t2 : lp (fun a => b_M_isSo_5 (iI (s : Int)) (iI (c : Int)) a.1 a.2.1 a.2.2) FU (iI 1, iI 0, sS τ s0) = some (iI 0, sS τ (goesN s0 (D + 1))) := this
      rw [t2, obs, if_pos hl]
      rfl
    · intro i hi
      show b_M_isSo_5 (iI (s : Int)) (iI (c : Int)) (if i ≤ D then iI 1 else iI 0) (iI (i : Int)) (sS τ (goesN s0 i)) = some (.inl (if i + 1 ≤ D then iI 1 else iI 0, iI ((i + 1 : Nat) : Int), sS τ (goesN s0 (i + 1))))
      rw [if_pos (show i ≤ D by omega), hstep i (by omega)]
      by_cases e : i = D
      · subst e
        rw [if_neg (h2 hl), if_neg (by omega)]
      · rw [if_pos (h1 i (by omega)), if_pos (by omega)]
    · show b_M_isSo_5 (iI (s : Int)) (iI (c : Int)) (if D + 1 ≤ D then iI 1 else iI 0) (iI ((D + 1 : Nat) : Int)) (sS τ (goesN s0 (D + 1))) = _
      rw [if_neg (by omega)]
      unfold b_M_isSo_5
      rw [rd_N hs (by decide), obs, if_pos rfl]
      split <;> rfl
  · refine ⟨goesN s0 D, ?_⟩
    have t2 : lp (fun a => b_M_isSo_5 (iI (s : Int)) (iI (c : Int)) a.1 a.2.1 a.2.2) FU (iI 1, iI 0, sS τ s0) = some (iI 1, sS τ (goesN s0 D)) := by
      refine lp_run (body := fun a => b_M_isSo_5 (iI (s : Int)) (iI (c : Int)) a.1 a.2.1 a.2.2) (fun i => (iI 1, iI (i : Int), sS τ (goesN s0 i))) _ D FU ?_ ?_ (Nat.lt_of_le_of_lt (show D ≤ 40 by omega) (by decide))
      · intro i hi
        show b_M_isSo_5 (iI (s : Int)) (iI (c : Int)) (iI 1) (iI (i : Int)) (sS τ (goesN s0 i)) = _
        rw [hstep i (by omega), if_pos (h1 i hi)]
      · show b_M_isSo_5 (iI (s : Int)) (iI (c : Int)) (iI 1) (iI (D : Int)) (sS τ (goesN s0 D)) = _
        unfold b_M_isSo_5
        rw [rd_N hs (by decide), obs, e29, if_pos (by rw [iI_le (by omega) (by omega)]; omega)]
    unfold f_M_isSo
    rw [t2, obs, if_neg hl]
    rfl
/-- how many pairs -/
def rcN (D : Nat → Nat → Nat) (z : Nat) : Nat → Int
  | 0 => 0
  | q + 1 => rcN D z q + (if D (q / 10) (q % 10) < z then 0 else 1)
theorem rcN_succ (D : Nat → Nat → Nat) (z q : Nat) : rcN D z (q + 1) = rcN D z q + (if D (q / 10) (q % 10) < z then 0 else 1) := rfl
theorem both_read (n : Nat) (a b : Int32) : Both n (f_X_read a b) (f_M_read a b) := by
  intro σ h
  obtain ⟨za, rfl, ha⟩ := toI a
  obtain ⟨zb, rfl, hb⟩ := toI b
  obtain ⟨v, kp, len, bs, h1, h2, h3, h4, h5⟩ := id h
  have g1 := h1.2.2.1
  have g9 := h1.2.2.2.1
  have f28 : ∀ k : Nat, (foS σ k).1 28 = σ.1 28 := fun k => by funext i j q; simp [foS, upI_1]
  by_cases hca : 0 ≤ za ∧ za ≤ 3
  · obtain ⟨s, hs⟩ : ∃ s : Nat, za = (s : Int) := ⟨za.toNat, by omega⟩
    subst hs
    have hs4 : s < 4 := by omega
    obtain ⟨k1, k2, ⟨z, z1, z2, z3⟩, k4⟩ := h5 s hs4
    by_cases hm : σ.1 28 0 0 s = iI 0
    · refine both_fg (k := 5) (by decide) (r := iI (-1000000006)) h ?_ ?_
      · unfold f_X_read
        rw [x_sr_miss hs4 (by rw [k1]; exact hm), b2s, if_neg (by decide), x_found5, b2s]
      · unfold f_M_read
        rw [m_ww_miss hs4 (by rw [f28]; exact hm), b2s, if_neg (by decide), m_no5, b2s]
    · have hm3 : ¬ σ.1 3 s 0 0 = iI 0 := by rw [k1]; exact hm
      by_cases hcb : 0 ≤ zb ∧ zb < v 2
      · obtain ⟨c1, c2, c3⟩ := h1.lt hcb
        have hG := g1.rg c1
        have hGk : ∀ k m : Nat, k < 6 → m < 10 → GR (up (up (rug v zb.toNat) 0 k) 4 m) := fun k m hk hm => (hG.set (f := 0) (x := (k : Int)) (by omega) (by omega) (by omega) (by omega) (by omega) (by omega) (by omega)).set (f := 4) (x := (m : Int)) (by omega) (by omega) (by omega) (by omega) (by omega) (by omega) (by omega)
        have hex : ∀ k m : Nat, ∃ D : Nat, D ≤ z ∧ (∀ i, i < D → i < z ∧ σ.2.1 17 s 0 i = (iI (rgF v (up (up (rug v zb.toNat) 0 k) 4 m) i 3)).toInt64) ∧ ¬ (D < z ∧ σ.2.1 17 s 0 D = (iI (rgF v (up (up (rug v zb.toNat) 0 k) 4 m) D 3)).toInt64) := fun k m => first_ex (p := fun i => i < z ∧ σ.2.1 17 s 0 i = (iI (rgF v (up (up (rug v zb.toNat) 0 k) 4 m) i 3)).toInt64) z (by omega)
        have hD : ∃ D : Nat → Nat → Nat, ∀ k m : Nat, D k m ≤ z ∧ (∀ i, i < D k m → i < z ∧ σ.2.1 17 s 0 i = (iI (rgF v (up (up (rug v zb.toNat) 0 k) 4 m) i 3)).toInt64) ∧ ¬ (D k m < z ∧ σ.2.1 17 s 0 (D k m) = (iI (rgF v (up (up (rug v zb.toNat) 0 k) 4 m) (D k m) 3)).toInt64) := ⟨fun k m => Classical.choose (hex k m), fun k m => Classical.choose_spec (hex k m)⟩
        obtain ⟨D, hD⟩ := hD
        have hX1 : ∀ (i : Nat) (τ : Sg), i < 6 → Ag PP σ τ → ∃ b, lp (fun a => b_X_read_33 (iI (s : Int)) (iI zb) (iI (i : Int)) a.1 a.2.1 a.2.2) FU (iI (rcN D z (10 * i)), iI 0, τ) = some b ∧ (b.1 = iI (rcN D z (10 * i + 10)) ∧ Ag PP σ b.2) := by
          intro i τ hi hτ
          refine lp_rel (fun j a => a.1 = iI (rcN D z (10 * i + j)) ∧ a.2.1 = iI (j : Int) ∧ Ag PP σ a.2.2) (fun b : Int32 × Sg => b.1 = iI (rcN D z (10 * i + 10)) ∧ Ag PP σ b.2) 10 FU _ ⟨rfl, rfl, hτ⟩ ?_ ?_ (by decide)
          · intro j a hj hI
            obtain ⟨a1, a2, a4⟩ := a
            obtain ⟨rfl, rfl, i4⟩ := hI
            have i4 : Ag PP σ a4 := i4
            obtain ⟨d1, d2, d3⟩ := hD i j
            have hR2 : XR a4 0 zb.toNat (rug v zb.toNat) := (h1.2.1.2 _ c1).ag i4 (by simp [PP, P1])
            obtain ⟨σ', q1, q2, q3⟩ := x_become (w := 3) (c := 0) hR2 hG (by decide) (Or.inr trivial)
            have q3 : Ag PP a4 σ' := q3
            have q4 : Ag PP σ' (upI (upK σ' 2 3 0 i) 2 3 0 4 (iI (j : Int))) := (Ag.upK ⟨rfl, rfl, rfl⟩).tr (Ag.upI ⟨rfl, rfl, rfl⟩)
            have q5 : XR (upI (upK σ' 2 3 0 i) 2 3 0 4 (iI (j : Int))) 3 0 (up (up (rug v zb.toNat) 0 i) 4 j) := by
              obtain ⟨x0, x1, x2, x3, x4, x5, x6⟩ := q2
              refine ⟨?_, ?_, ?_, ?_, ?_, ?_, fun q => ?_⟩
              · simp [upI_2, upK_2, up]
              · simp [upI_1, upK_1, up, x1]
              · simp [upI_1, upK_1, up, x2]
              · simp [upI_1, upK_1, up, x3]
              · simp [upI_1, upK_1, up]
              · simp [upI_1, upK_1, up, x5]
              · simp [upI_1, upK_1, up]; exact x6 q
            have hall : Ag PP σ (upI (upK σ' 2 3 0 i) 2 3 0 4 (iI (j : Int))) := (i4.tr q3).tr q4
            have e17 : (upI (upK σ' 2 3 0 i) 2 3 0 4 (iI (j : Int))).2.1 17 s 0 = σ.2.1 17 s 0 := (hall 17 s 0 (by simp [PP, P1])).2.1
            obtain ⟨σ2, p1, p2⟩ := x_wearsAs (h1.2.1.1.pp hall) g1 (hGk i j hi hj) q5 (s := s) (z := z) (by rw [(hall 3 s 0 (by simp [PP, P1])).1]; exact z2) z1 d1 (fun k hk => by rw [e17]; exact (d2 k hk).2) (fun hl => by rw [e17]; exact fun q => d3 ⟨hl, q⟩)
            refine ⟨(iI (rcN D z (10 * i + (j + 1))), iI ((j + 1 : Nat) : Int), σ2), ?_, rfl, rfl, hall.tr p2⟩
            show b_X_read_33 (iI (s : Int)) (iI zb) (iI (i : Int)) (iI (rcN D z (10 * i + j))) (iI (j : Int)) a4 = _
            unfold b_X_read_33
            rw [if_neg (by rw [iI_lt (by omega) (by omega)]; omega), rd_iI (by omega) (by omega) (by decide), obs, q1, b2s, rd_N hi (by decide), obs, rd_N hs4 (by decide), obs, p1, b2s, show 10 * i + (j + 1) = 10 * i + j + 1 by omega, rcN_succ, show (10 * i + j) / 10 = i by omega, show (10 * i + j) % 10 = j by omega, iI_add, iI_add]
            by_cases e : D i j < z
            · rw [if_pos e, if_pos rfl, if_pos e, Int.add_zero]
              rfl
            · rw [if_neg e, if_neg (by decide), if_neg e]
              rfl
          · intro a hI
            obtain ⟨a1, a2, a4⟩ := a
            obtain ⟨rfl, rfl, i4⟩ := hI
            exact ⟨(iI (rcN D z (10 * i + 10)), a4), rfl, rfl, i4⟩
        have hX : ∃ b, lp (fun a => b_X_read_23 (iI (s : Int)) (iI zb) a.1 a.2.1 a.2.2) FU (iI 0, iI 0, σ) = some b ∧ (b.1 = iI (rcN D z 60) ∧ Ag PP σ b.2) := by
          refine lp_rel (fun i a => a.1 = iI (rcN D z (10 * i)) ∧ a.2.1 = iI (i : Int) ∧ Ag PP σ a.2.2) (fun b : Int32 × Sg => b.1 = iI (rcN D z 60) ∧ Ag PP σ b.2) 6 FU _ ⟨rfl, rfl, Ag.rf⟩ ?_ ?_ (by decide)
          · intro i a hi hI
            obtain ⟨a1, a2, a4⟩ := a
            obtain ⟨rfl, rfl, i4⟩ := hI
            obtain ⟨⟨b1, b2'⟩, p1, p2, p3⟩ := hX1 i a4 hi i4
            have p2 : b1 = iI (rcN D z (10 * i + 10)) := p2
            subst p2
            refine ⟨(iI (rcN D z (10 * (i + 1))), iI ((i + 1 : Nat) : Int), b2'), ?_, rfl, rfl, p3⟩
            show b_X_read_23 (iI (s : Int)) (iI zb) (iI (rcN D z (10 * i))) (iI (i : Int)) a4 = _
            unfold b_X_read_23
            rw [if_neg (by rw [iI_le (by omega) (by omega)]; omega), p1, obs, iI_add]
            rfl
          · intro a hI
            obtain ⟨a1, a2, a4⟩ := a
            obtain ⟨rfl, rfl, i4⟩ := hI
            exact ⟨(iI (rcN D z 60), a4), rfl, rfl, i4⟩
        obtain ⟨⟨b, σ1⟩, p1, p2, hag⟩ := hX
        have p2 : b = iI (rcN D z 60) := p2
        subst p2
        have hag : Ag PP σ σ1 := hag
        have e28 : σ1.1 28 0 0 = σ.1 28 0 0 := (hag 28 0 0 (by simp [PP, P1])).1
        have hM : lp (fun a => b_M_read_27 (iI (s : Int)) (iI zb) a.1 a.2.1 a.2.2) FU (iI 0, iI 0, sS (aS σ1 v) v) = some (iI (rcN D z 60), sS (aS σ1 v) v) := by
          refine lp_run (fun i => (iI (rcN D z i), iI (i : Int), sS (aS σ1 v) v)) _ 60 FU ?_ rfl (by decide)
          intro q hq
          show b_M_read_27 (iI (s : Int)) (iI zb) (iI (rcN D z q)) (iI (q : Int)) (sS (aS σ1 v) v) = _
          obtain ⟨d1, d2, d3⟩ := hD (q / 10) (q % 10)
          have hGq := hGk (q / 10) (q % 10) (by omega) (by omega)
          have gs : GS (setRug v zb.toNat (up (up (rug v zb.toNat) 0 ((q / 10 : Nat) : Int)) 4 ((q % 10 : Nat) : Int))) := g1.set hGq
          have eg : ∀ d : Nat, rug (goesN (setRug v zb.toNat (up (up (rug v zb.toNat) 0 ((q / 10 : Nat) : Int)) 4 ((q % 10 : Nat) : Int))) d) zb.toNat 3 = rgF v (up (up (rug v zb.toNat) 0 ((q / 10 : Nat) : Int)) 4 ((q % 10 : Nat) : Int)) d 3 := fun d => goes_rgF (v := v) (r := up (up (rug v zb.toNat) 0 ((q / 10 : Nat) : Int)) 4 ((q % 10 : Nat) : Int)) gs (c := zb.toNat) (by rw [mny_hd (fun i hi => setRug_hd hi)]; exact c1) (fun i hi => setRug_hd hi) (fun f hf => setRug_at hf) d (f := 3) (by decide)
          have e30 : ∀ i, i < 40 → (aS σ1 v).2.1 30 0 0 (40 * s + i) = σ.2.1 17 s 0 i := fun i hi => by rw [show (aS σ1 v).2.1 = σ1.2.1 from rfl, (hag 30 0 0 (by simp [PP, P1])).2.1]; exact (k4 i hi).symm
          obtain ⟨w, hw⟩ := m_isSo (τ := aS σ1 v) gs (by rw [setRug_hd (by decide)]; omega) hs4 (c := zb.toNat) (by rw [mny_hd (fun i hi => setRug_hd hi)]; exact c1) (z := z) (by rw [show (aS σ1 v).1 29 = σ1.1 29 from r66_ne (by decide), (hag 29 0 0 (by simp [PP, P1])).1]; exact z3) z1 d1 (fun i hi => by rw [e30 i (by omega), eg i]; exact (d2 i hi).2) (fun hl => by rw [e30 _ (by omega), eg]; exact fun q => d3 ⟨hl, q⟩)
          have eback : f_M_laysBack (sS (aS σ1 v) w) = some ((), sS (aS σ1 v) v) := by
            rw [← asS, m_back, asS]
          unfold b_M_read_27 j_M_read_72
          rw [if_neg (by rw [iI_le (by omega) (by omega)]; omega), iI_div (by omega) (by omega), iI_mul, iI_sub, show (q : Int) / 10 = ((q / 10 : Nat) : Int) by omega, show (q : Int) - ((q / 10 : Nat) : Int) * 10 = ((q % 10 : Nat) : Int) by omega, c3, m_puts0 c2, b2s, m_puts4 c2, b2s, up_set (s := v) (f := 0) (by decide), up_setRug (f := 4) (by decide), hw, b2s, eback, b2s, b2s, rcN_succ, iI_add, iI_add, iI_add]
          by_cases e : D (q / 10) (q % 10) < z
          · rw [if_pos e, if_pos rfl, if_pos e]
            rfl
          · rw [if_neg e, if_neg (by decide), if_neg e]
            rfl
        refine both_q (σ2 := aS σ1 v) h (r := iI (rcN D z 60)) (σ1 := σ1) ?_ (hag.mono (fun t i j z => PP_Fr z)) ?_ (Ag.aS (Or.inl rfl))
        · unfold f_X_read
          rw [x_sr_ok h1 hs4 hm3 hb, b2s, if_pos hcb, if_pos rfl, p1, obs]
        · have e : f_M_read (iI (s : Int)) (iI zb) (sS σ1 v) = some (iI (rcN D z 60), aS (sS σ1 v) v) := by
            unfold f_M_read
            rw [m_ww_ok g1 σ1 hs4 (by rw [e28]; exact hm) hb, b2s, if_pos hcb, if_pos (by decide), m_aside, b2s, asS, hM, obs]
          rw [MS.keep h1 (PP_20 hag)] at e
          exact e
      · refine both_fg (k := 0) (by decide) (r := iI (-1000000001)) h ?_ ?_
        · unfold f_X_read
          rw [x_sr_ok h1 hs4 hm3 hb, b2s, if_neg hcb, if_neg (by decide), x_found0, b2s]
        · have e : f_M_read (iI (s : Int)) (iI zb) (sS (foS σ 0) v) = some (iI (-1000000001), noS (sS (foS σ 0) v) 0) := by
            unfold f_M_read
            rw [m_ww_ok g1 (foS σ 0) hs4 (by rw [f28]; exact hm) hb, b2s, if_neg hcb, if_neg (by decide), m_no0, b2s]
          rw [h1.fo] at e
          exact e
  · refine both_fg (k := 0) (by decide) (r := iI (-1000000001)) h ?_ ?_
    · unfold f_X_read
      rw [x_sr_no ha hca, b2s, if_neg (by decide), x_found0, b2s]
    · unfold f_M_read
      rw [m_ww_no ha hca, b2s, if_neg (by decide), m_no0, b2s]
