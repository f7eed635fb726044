/-! PURE: promises 8 to 15 -/
theorem GV.set {n : Nat} {v : Ro} {c : Nat} {r : Ro} (h : GV n v) (hc : c < mny v) (hr : GR r) (ho : 0 ≤ r 5 → 0 ≤ rug v c 5 ∧ r 6 = rug v c 6) : GV n (setRug v c r) := by
  obtain ⟨g1, g2, g3, g4, g5⟩ := h
  have hmn : mny (setRug v c r) = mny v := mny_hd (fun i hi => setRug_hd hi)
  have key : ∀ a, a < mny v → 0 ≤ rug (setRug v c r) a 5 → 0 ≤ rug v a 5 ∧ rug (setRug v c r) a 6 = rug v a 6 := by
    intro a ha h5
    by_cases e : a = c
    · subst e
      rw [setRug_at (by decide)] at h5
      rw [setRug_at (by decide)]
      exact ho h5
    · rw [setRug_ne e (by decide)] at h5
      rw [setRug_ne e (by decide)]
      exact ⟨h5, rfl⟩
  refine ⟨g1.set hr, by rw [setRug_hd (by decide)]; exact g2, ?_, by rw [setRug_hd (by decide)]; exact g4, ?_⟩
  · intro a b ha hb oa ob e
    rw [hmn] at ha hb
    obtain ⟨k1, k2⟩ := key a ha oa
    obtain ⟨k3, k4⟩ := key b hb ob
    rw [k2, k4] at e
    exact g3 a b ha hb k1 k3 e
  · intro a ha oa
    rw [hmn] at ha
    obtain ⟨k1, k2⟩ := key a ha oa
    rw [k2, setRug_hd (by decide)]
    exact g5 a ha k1
def PRg (c : Nat) : Nat → Nat → Nat → Prop := fun t i j => t = 20 ∨ (t = 2 ∧ i = 0 ∧ j = c)
theorem XW.set {σ σ' : Sg} {v : Ro} {c : Nat} {r : Ro} (h : XW σ 0 v) (ha : Ag (PRg c) σ σ') (hX : XR σ' 0 c r) : XW σ' 0 (setRug v c r) := by
  have hmn : mny (setRug v c r) = mny v := mny_hd (fun i hi => setRug_hd hi)
  refine ⟨?_, fun a hc => ?_⟩
  · unfold XH
    rw [(ha 1 0 0 (by simp [PRg])).1, (ha 12 0 0 (by simp [PRg])).1, setRug_hd (by decide), setRug_hd (by decide), setRug_hd (by decide)]
    exact ⟨h.1.1, h.1.2.1, h.1.2.2.1, fun i hi => by rw [setRug_hd (by omega)]; exact h.1.2.2.2 i hi⟩
  · rw [hmn] at hc
    by_cases e : a = c
    · subst e
      exact hX.cong (fun f hf => setRug_at hf)
    · exact ((h.2 a hc).ag ha (by simp [PRg, e])).cong (fun f hf => setRug_ne e hf)
theorem Inv.rug {n : Nat} {σ σ' : Sg} {v : Ro} {c : Nat} {r : Ro} (h : Inv n σ) (h1 : IW n σ v) (hc : c < mny v) (hr : GR r) (ho : 0 ≤ r 5 → 0 ≤ rug v c 5 ∧ r 6 = rug v c 6) (ha : Ag (PRg c) σ σ') (hM : ∀ j, j < 66 → σ'.1 20 0 0 j = iI (setRug v c r j)) (hX : XR σ' 0 c r) : Inv (n + 1) σ' :=
  h.wld (ha.mono (fun t i j z => by unfold PRg at z; unfold PWl; omega)) hM (h1.2.1.set ha hX) ((h1.2.2.set hc hr ho).mono (by omega))
theorem x_isRug {n : Nat} {σ : Sg} {v : Ro} (h : IW n σ v) {k : Int} (hk : -2147483648 ≤ k ∧ k < 2147483648) : f_X_isRug (iI k) σ = some (if 0 ≤ k ∧ k < v 2 then iI 1 else iI 0, σ) := by
  obtain ⟨-, -, h3, -⟩ := h.2.2.1
  unfold f_X_isRug
  rw [h.2.1.1.1, iI_sub, x_within _ _ _ hk (by omega) (by omega), b2s, bo_if, obs]
  by_cases hq : 0 ≤ k ∧ k < v 2
  · rw [if_pos hq, if_pos (by omega)]
  · rw [if_neg hq, if_neg (by omega)]
theorem IW.fo {n : Nat} {σ : Sg} {v : Ro} (h : IW n σ v) (k : Nat) : sS (foS σ k) v = foS σ k := MS.keep h (foS_20 σ k)
theorem IW.lt {n : Nat} {σ : Sg} {v : Ro} (h : IW n σ v) {k : Int} (hk : 0 ≤ k ∧ k < v 2) : k.toNat < mny v ∧ k.toNat < 8 ∧ k = ((k.toNat : Nat) : Int) := by
  have h1 := mny_eq h.2.2.1
  have h2 := mny_le h.2.2.1
  omega
theorem upI_20 {σ : Sg} {t i j k : Nat} {x : Int32} (h : t ≠ 20) : (upI σ t i j k x).1 20 = σ.1 20 := by
  funext a b c
  show (if 20 = t ∧ a = i ∧ b = j ∧ c = k then x else _) = _
  rw [if_neg (fun z => h z.1.symm)]
theorem both_up (n : Nat) (a : Int32) : Both n (f_X_up a) (f_M_up a) := by
  intro σ h
  obtain ⟨za, rfl, ha⟩ := toI a
  obtain ⟨v, kp, len, bs, h1, h2⟩ := id h
  have g1 := h1.2.2.1
  have hse := h1.self
  by_cases hca : 0 ≤ za ∧ za < v 2
  · obtain ⟨c1, c2, c3⟩ := h1.lt hca
    have hR := h1.2.1.2 _ c1
    have hG := g1.rg c1
    have hG5 : -1 ≤ rug v za.toNat 5 ∧ rug v za.toNat 5 ≤ 39 := hG.2.2.2.2.2.1
    by_cases ho : 0 ≤ rug v za.toNat 5
    · obtain ⟨σ1, q1, q2, q3⟩ := x_putAway hR
      have ha1 : Ag (PRg za.toNat) σ σ1 := q3.mono (fun t i j z => Or.inr z)
      have e20 : σ1.1 20 = σ.1 20 := by
        funext i j k
        rw [(q3 20 i j (by simp [P1])).1]
      refine ⟨iI (rug v za.toNat 5), σ1, sS σ1 (setRug v za.toNat (up (rug v za.toNat) 5 (-1))), ?_, ?_, ?_⟩
      · unfold f_X_up
        rw [x_isRug h1 ha, b2s, if_pos hca, if_neg (by decide), rd_iI (by omega) (by omega) (by decide), obs, x_isOut hR hG, b2s, if_pos ho, if_neg (by decide), q1, b2s, hR.2.2.2.2.2.1]
      · have e : f_M_up (iI za) (sS σ1 v) = some (iI (rug v za.toNat 5), sS σ1 (setRug v za.toNat (up (rug v za.toNat) 5 (-1)))) := by
          unfold f_M_up
          rw [m_isC g1 σ1 ha, b2s, if_pos hca, if_neg (by decide), c3, m_get5 c2, b2s, if_pos (by rw [iI_le (by omega) (by omega)]; exact ho), m_puts5 c2, b2s, up_set (by decide)]
          rfl
        rw [MS.keep h1 e20] at e
        exact e
      · exact h.rug h1 c1 (hG.set (by omega) (by omega) (by omega) (by omega) (by omega) (by omega) (by omega)) (fun z => absurd z (by rw [up_same]; decide)) (ha1.tr (Ag.sS (Or.inl rfl))) (fun j hj => sS_at hj) (q2.ag (Ag.sS (P := fun t _ _ => t = 20) rfl) (by simp))
    · refine both_fo (k := 4) (by decide) h ?_ ?_
      · unfold f_X_up
        rw [x_isRug h1 ha, b2s, if_pos hca, if_neg (by decide), rd_iI (by omega) (by omega) (by decide), obs, x_isOut hR hG, b2s, if_neg ho, if_pos (by decide), x_found4, b2s]
        rfl
      · have e : f_M_up (iI za) (sS (foS σ 4) v) = some (iI (-1000000005), noS (sS (foS σ 4) v) 4) := by
          unfold f_M_up
          rw [m_isC g1 _ ha, b2s, if_pos hca, if_neg (by decide), c3, m_get5 c2, b2s, if_neg (by rw [iI_le (by omega) (by omega)]; exact ho), m_no4, b2s]
        rw [h1.fo] at e
        exact e
  · refine both_fo (k := 0) (by decide) h ?_ ?_
    · unfold f_X_up
      rw [x_isRug h1 ha, b2s, if_neg hca, if_pos (by decide), x_found0, b2s]
      rfl
    · have e : f_M_up (iI za) (sS (foS σ 0) v) = some (iI (-1000000001), noS (sS (foS σ 0) v) 0) := by
        unfold f_M_up
        rw [m_isC g1 _ ha, b2s, if_neg hca, if_pos (by decide), m_no0, b2s]
      rw [h1.fo] at e
      exact e
theorem both_turn (n : Nat) (a b : Int32) : Both n (f_X_turn a b) (f_M_turn a b) := by
  intro σ h
  obtain ⟨za, rfl, ha⟩ := toI a
  obtain ⟨zb, rfl, hb⟩ := toI b
  obtain ⟨v, kp, len, bs, h1, h2⟩ := id h
  have g1 := h1.2.2.1
  by_cases hc : (0 ≤ za ∧ za < v 2) ∧ (0 ≤ zb ∧ zb ≤ 5)
  · obtain ⟨hca, hcb⟩ := hc
    obtain ⟨c1, c2, c3⟩ := h1.lt hca
    have hR := h1.2.1.2 _ c1
    have hG := g1.rg c1
    have hG0 : 0 ≤ rug v za.toNat 0 ∧ rug v za.toNat 0 ≤ 5 := hG.1
    have ha1 : Ag (PRg za.toNat) σ (upK σ 2 0 za.toNat zb.toNat) := Ag.upK (Or.inr ⟨rfl, rfl, rfl⟩)
    refine ⟨iI (rug v za.toNat 0), upK σ 2 0 za.toNat zb.toNat, sS (upK σ 2 0 za.toNat zb.toNat) (setRug v za.toNat (up (rug v za.toNat) 0 zb)), ?_, ?_, ?_⟩
    · unfold f_X_turn
      rw [x_isRug h1 ha, b2s, if_pos hca, if_neg (by decide), x_within _ _ _ hb (by omega) (by omega), b2s, if_pos hcb, if_neg (by decide), rd_iI (by omega) (by omega) (by decide), obs, hR.1, kd_ok hG, obs, rd_iI (by omega) (by omega) (by decide), obs, ← iN, show (((rug v za.toNat 0).toNat : Nat) : Int) = rug v za.toNat 0 by omega]
    · have e : f_M_turn (iI za) (iI zb) (sS (upK σ 2 0 za.toNat zb.toNat) v) = some (iI (rug v za.toNat 0), sS (upK σ 2 0 za.toNat zb.toNat) (setRug v za.toNat (up (rug v za.toNat) 0 zb))) := by
        unfold f_M_turn
        rw [m_isC g1 _ ha, b2s, if_pos hca, if_neg (by decide), m_in1 _ _ _ hb (by omega) (by omega), b2s, if_pos hcb, if_neg (by decide), c3, m_get0 c2, b2s, m_puts0 c2, b2s, up_set (by decide)]
        rfl
      rw [MS.keep (σ' := upK σ 2 0 za.toNat zb.toNat) h1 rfl] at e
      exact e
    · refine h.rug h1 c1 (hG.set (by omega) (by omega) (by omega) (by omega) (fun _ => hcb) (by omega) (by omega)) (fun z => ⟨by rw [up_ne (by decide)] at z; exact z, up_ne (by decide)⟩) (ha1.tr (Ag.sS (Or.inl rfl))) (fun j hj => sS_at hj) ?_
      refine XR.ag (σ := upK σ 2 0 za.toNat zb.toNat) ?_ (Ag.sS (P := fun t _ _ => t = 20) rfl) (by simp)
      refine ⟨?_, hR.2.1, hR.2.2.1, hR.2.2.2.1, hR.2.2.2.2.1, hR.2.2.2.2.2.1, hR.2.2.2.2.2.2⟩
      rw [upK_row, up_same]
  · refine both_fo (k := 0) (by decide) h ?_ ?_
    · unfold f_X_turn j_X_turn_17
      rw [x_isRug h1 ha, b2s]
      by_cases k1 : 0 ≤ za ∧ za < v 2
      · rw [if_pos k1, if_neg (by decide), x_within _ _ _ hb (by omega) (by omega), b2s, if_neg (fun z => hc ⟨k1, z⟩), if_pos (by decide), x_found0, b2s]
        rfl
      · rw [if_neg k1, if_pos (by decide), x_found0, b2s]
        rfl
    · have e : f_M_turn (iI za) (iI zb) (sS (foS σ 0) v) = some (iI (-1000000001), noS (sS (foS σ 0) v) 0) := by
        unfold f_M_turn j_M_turn_17
        rw [m_isC g1 _ ha, b2s]
        by_cases k1 : 0 ≤ za ∧ za < v 2
        · rw [if_pos k1, if_neg (by decide), m_in1 _ _ _ hb (by omega) (by omega), b2s, if_neg (fun z => hc ⟨k1, z⟩), if_pos (by decide), m_no0, b2s]
        · rw [if_neg k1, if_pos (by decide), m_no0, b2s]
      rw [h1.fo] at e
      exact e
theorem both_beat (n : Nat) (a : Int32) : Both n (f_X_beat a) (f_M_beat a) := by
  intro σ h
  obtain ⟨za, rfl, ha⟩ := toI a
  obtain ⟨v, kp, len, bs, h1, h2⟩ := id h
  have g1 := h1.2.2.1
  by_cases hca : 0 ≤ za ∧ za < v 2
  · obtain ⟨c1, c2, c3⟩ := h1.lt hca
    have hR := h1.2.1.2 _ c1
    have hG := g1.rg c1
    have hG3 : 0 ≤ rug v za.toNat 3 ∧ rug v za.toNat 3 ≤ 99 := hG.2.2.2.1
    have hB : 0 ≤ beaten (rug v za.toNat) ∧ beaten (rug v za.toNat) ≤ 12 := by
      obtain ⟨k0, k1, k2, k3, k4, k5, k6⟩ := hG
      unfold beaten
      repeat' split
      all_goals omega
    obtain ⟨p, hp⟩ : ∃ p : Int, p = if rug v za.toNat 3 + beaten (rug v za.toNat) < 99 then rug v za.toNat 3 + beaten (rug v za.toNat) else 99 := ⟨_, rfl⟩
    have hpr : 0 ≤ p ∧ p ≤ 99 := by
      rw [hp]
      split <;> omega
    have e1 : (if iI 0 < (if σ.1 2 0 za.toNat 3 + iI (beaten (rug v za.toNat)) < iI 99 then σ.1 2 0 za.toNat 3 + iI (beaten (rug v za.toNat)) else iI 99) then (if σ.1 2 0 za.toNat 3 + iI (beaten (rug v za.toNat)) < iI 99 then σ.1 2 0 za.toNat 3 + iI (beaten (rug v za.toNat)) else iI 99) else iI 0) = iI p := by
      have e2 : (if σ.1 2 0 za.toNat 3 + iI (beaten (rug v za.toNat)) < iI 99 then σ.1 2 0 za.toNat 3 + iI (beaten (rug v za.toNat)) else iI 99) = iI p := by
        rw [hR.2.2.2.1, iI_add, hp]
        simp (disch := omega) only [iI_lt]
        split <;> rfl
      rw [e2]
      simp (disch := omega) only [iI_lt]
      split
      · rfl
      · rw [show p = 0 by omega]
    have ha1 : Ag (PRg za.toNat) σ (upI (upI σ 2 0 za.toNat 3 (iI p)) 2 0 za.toNat 4 (iI 0)) := (Ag.upI (Or.inr ⟨rfl, rfl, rfl⟩)).tr (Ag.upI (Or.inr ⟨rfl, rfl, rfl⟩))
    refine ⟨iI p, upI (upI σ 2 0 za.toNat 3 (iI p)) 2 0 za.toNat 4 (iI 0), sS (upI (upI σ 2 0 za.toNat 3 (iI p)) 2 0 za.toNat 4 (iI 0)) (setRug v za.toNat (up (up (rug v za.toNat) 3 p) 4 0)), ?_, ?_, ?_⟩
    · unfold f_X_beat
      rw [x_isRug h1 ha, b2s, if_pos hca, if_neg (by decide), rd_iI (by omega) (by omega) (by decide), obs, hR.1, kd_ok hG, obs, x_gains hR hG, b2s, e1]
      simp [upI_1]
    · have e : f_M_beat (iI za) (sS (upI (upI σ 2 0 za.toNat 3 (iI p)) 2 0 za.toNat 4 (iI 0)) v) = some (iI p, sS (upI (upI σ 2 0 za.toNat 3 (iI p)) 2 0 za.toNat 4 (iI 0)) (setRug v za.toNat (up (up (rug v za.toNat) 3 p) 4 0))) := by
        have hbt := m_beaten (σ := upI (upI σ 2 0 za.toNat 3 (iI p)) 2 0 za.toNat 4 (iI 0)) g1 c1
        have hle : f_M_less (iI 99) (iI (rug v za.toNat 3 + beaten (rug v za.toNat))) (sS (upI (upI σ 2 0 za.toNat 3 (iI p)) 2 0 za.toNat 4 (iI 0)) v) = some (iI p, sS (upI (upI σ 2 0 za.toNat 3 (iI p)) 2 0 za.toNat 4 (iI 0)) v) := by
          rw [m_less _ _ (by omega) (by omega), hp]
          by_cases k1 : rug v za.toNat 3 + beaten (rug v za.toNat) < 99
          · rw [if_neg (by omega), if_pos k1]
          · rw [if_neg k1]
            by_cases k2 : 99 < rug v za.toNat 3 + beaten (rug v za.toNat)
            · rw [if_pos k2]
            · rw [if_neg k2, show rug v za.toNat 3 + beaten (rug v za.toNat) = 99 by omega]
        unfold f_M_beat
        rw [m_isC g1 _ ha, b2s, if_pos hca, if_neg (by decide), c3, Int.toNat_natCast, m_get3 c2, b2s, hbt, b2s, iI_add, hle, b2s, m_puts3 c2, b2s, m_puts4 c2, b2s, m_get3 c2, b2s, rug_up, if_neg (by decide), rug_up, if_pos rfl, up_set (s := v) (k := za.toNat) (f := 3) (v := p) (by decide), up_setRug (by decide)]
      rw [MS.keep h1 (by rw [upI_20 (by decide), upI_20 (by decide)])] at e
      exact e
    · refine h.rug h1 c1 ((hG.set (f := 3) (x := p) (by omega) (by omega) (fun _ => hpr) (by omega) (by omega) (by omega) (by omega)).set (f := 4) (x := 0) (by omega) (by omega) (by omega) (by omega) (by omega) (by omega) (by omega)) (fun z => ⟨z, rfl⟩) (ha1.tr (Ag.sS (Or.inl rfl))) (fun j hj => sS_at hj) ?_
      refine XR.ag (σ := upI (upI σ 2 0 za.toNat 3 (iI p)) 2 0 za.toNat 4 (iI 0)) ?_ (Ag.sS (P := fun t _ _ => t = 20) rfl) (by simp)
      obtain ⟨x0, x1, x2, x3, x4, x5, x6⟩ := hR
      refine ⟨x0, ?_, ?_, ?_, ?_, ?_, fun z => ?_⟩
      · simp [upI_1, up, x1]
      · simp [upI_1, up, x2]
      · simp [upI_1, up]
      · simp [upI_1, up]
      · simp [upI_1, up, x5]
      · simp [upI_1, up]; exact x6 z
  · refine both_fo (k := 0) (by decide) h ?_ ?_
    · unfold f_X_beat
      rw [x_isRug h1 ha, b2s, if_neg hca, if_pos (by decide), x_found0, b2s]
      rfl
    · have e : f_M_beat (iI za) (sS (foS σ 0) v) = some (iI (-1000000001), noS (sS (foS σ 0) v) 0) := by
        unfold f_M_beat
        rw [m_isC g1 _ ha, b2s, if_neg hca, if_pos (by decide), m_no0, b2s]
      rw [h1.fo] at e
      exact e
