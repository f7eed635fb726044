/-! PURE: one carpet alone (side by side) -/
def rgF (v : Ro) (r : Ro) : Nat → Ro
  | 0 => r
  | n + 1 => ageR (rgF v r n) (wetAt v n)
theorem rgF_succ (v r : Ro) (n : Nat) : rgF v r (n + 1) = ageR (rgF v r n) (wetAt v n) := rfl
theorem gr_rgF {v r : Ro} (h : GS v) (hr : GR r) : ∀ n : Nat, GR (rgF v r n) := by
  intro n
  induction n with
  | zero => exact hr
  | succ n ih => exact ih.age (wetAt_01 h n)
theorem wetAt_hd {s v : Ro} (e : ∀ i, i < 10 → s i = v i) (d : Nat) : wetAt s d = wetAt v d := by
  unfold wetAt
  rw [e 0 (by decide), e _ (by have := Nat.mod_lt ((v 0).toNat + d) (show 7 > 0 by decide); omega)]
theorem rgN_rgF {s v r : Ro} {c : Nat} (e : ∀ i, i < 10 → s i = v i) (er : ∀ f, f < 7 → rug s c f = r f) : ∀ (n f : Nat), f < 7 → rgN s c n f = rgF v r n f := by
  intro n
  induction n with
  | zero => exact er
  | succ n ih =>
    intro f hf
    rw [rgN_succ, rgF_succ, wetAt_hd e]
    exact ageR_cong ih f hf
theorem goes_rgF {s v r : Ro} {c : Nat} (h : GS s) (hc : c < mny s) (e : ∀ i, i < 10 → s i = v i) (er : ∀ f, f < 7 → rug s c f = r f) (n : Nat) {f : Nat} (hf : f < 7) : rug (goesN s n) c f = rgF v r n f := by
  rw [goesN_rug h hc n f hf]
  exact rgN_rgF e er n f hf
def PP : Nat → Nat → Nat → Prop := P1 2 3 0
theorem PP_Fr {t i j : Nat} (h : PP t i j) : Fr t i j := by
  unfold PP P1 at h
  unfold Fr
  omega
theorem PP_20 {σ σ' : Sg} (h : Ag PP σ σ') : σ'.1 20 = σ.1 20 := by
  funext i j k
  rw [(h 20 i j (by simp [PP, P1])).1]
theorem XH.pp {σ σ' : Sg} {v : Ro} (h : XH σ 0 v) (ha : Ag PP σ σ') : XH σ' 0 v := h.ag ha (by simp [PP, P1]) (by simp [PP, P1])
/-- the probe goes on a day -/
theorem x_pday {σ : Sg} {v r : Ro} (h : XH σ 0 v) (hg : GS v) (hr : GR r) {d : Nat} (hd : d < 1000) (hX : XR σ 3 0 (rgF v r d)) : ∃ σ', f_Rug_passDay 3 0 (iI (wetAt v d)) σ = some ((), σ') ∧ XR σ' 3 0 (rgF v r (d + 1)) ∧ Ag PP σ σ' ∧ XH σ' 0 v := by
  obtain ⟨σ', q1, q2, q3⟩ := x_passDay hX (gr_rgF hg hr d) (wetAt_01 hg d)
  exact ⟨σ', q1, q2, q3, h.pp q3⟩
theorem x_passProbe {σ : Sg} {v r : Ro} (h : XH σ 0 v) (hg : GS v) (hr : GR r) {n : Nat} (hn : n < 1000) (hX : XR σ 3 0 r) : ∃ σ', f_X_passProbe (iI n) σ = some ((), σ') ∧ XR σ' 3 0 (rgF v r n) ∧ Ag PP σ σ' := by
  have hl : ∃ σ', lp (fun a => b_X_passProbe_2 (iI n) a.1 a.2) FU (iI 0, σ) = some σ' ∧ (XR σ' 3 0 (rgF v r n) ∧ Ag PP σ σ') := by
    refine lp_rel (fun i a => a.1 = iI (i : Int) ∧ XH a.2 0 v ∧ XR a.2 3 0 (rgF v r i) ∧ Ag PP σ a.2) (fun b => XR b 3 0 (rgF v r n) ∧ Ag PP σ b) n FU (iI 0, σ) ⟨rfl, h, hX, Ag.rf⟩ ?_ ?_ (Nat.lt_of_lt_of_le hn (by decide))
    · intro k a hk hI
      obtain ⟨a1, a2⟩ := a
      obtain ⟨rfl, i2, i3, i4⟩ := hI
      have i2 : XH a2 0 v := i2
      have i3 : XR a2 3 0 (rgF v r k) := i3
      have i4 : Ag PP σ a2 := i4
      obtain ⟨σ', q1, q2, q3, q4⟩ := x_pday i2 hg hr (d := k) (by omega) i3
      refine ⟨(iI ((k + 1 : Nat) : Int), σ'), ?_, rfl, q4, q2, i4.tr q3⟩
      show b_X_passProbe_2 (iI n) (iI (k : Int)) a2 = _
      unfold b_X_passProbe_2
      rw [if_neg (by rw [iI_le (by omega) (by omega)]; omega), x_wet i2 hg (by omega), b2s, q1, b2s, iI_add]
      rfl
    · intro a hI
      obtain ⟨a1, a2⟩ := a
      obtain ⟨rfl, i2, i3, i4⟩ := hI
      refine ⟨a2, ?_, i3, i4⟩
      show b_X_passProbe_2 (iI n) (iI (n : Int)) a2 = _
      unfold b_X_passProbe_2
      rw [if_pos (by rw [iI_le (by omega) (by omega)]; omega)]
  obtain ⟨σ', q1, q2, q3⟩ := hl
  refine ⟨σ', ?_, q2, q3⟩
  unfold f_X_passProbe
  rw [q1, obs]
theorem both_on (n : Nat) (a b c : Int32) : Both n (f_X_on a b c) (f_M_on a b c) := by
  intro σ h
  obtain ⟨za, rfl, ha⟩ := toI a
  obtain ⟨zb, rfl, hb⟩ := toI b
  obtain ⟨zc, rfl, hcr⟩ := toI c
  obtain ⟨v, kp, len, bs, h1, h2⟩ := id h
  have g1 := h1.2.2.1
  have g9 := h1.2.2.2.1
  by_cases hc : (0 ≤ za ∧ za < v 2) ∧ (0 ≤ zb ∧ zb ≤ 200) ∧ (0 ≤ zc ∧ zc ≤ 2)
  · obtain ⟨hca, hcb, hcc⟩ := hc
    obtain ⟨c1, c2, c3⟩ := h1.lt hca
    have hR := h1.2.1.2 _ c1
    have hG := g1.rg c1
    have ez : zb = ((zb.toNat : Nat) : Int) := by omega
    obtain ⟨σ', q1, q2, q3⟩ := x_become (w := 3) (c := 0) hR hG (by decide) (Or.inr trivial)
    obtain ⟨σ1, p1, p2, p3⟩ := x_passProbe (h1.2.1.1.pp q3) g1 hG (n := zb.toNat) (by omega) q2
    rw [← ez] at p1
    have hag : Ag PP σ σ1 := Ag.tr q3 p3
    refine both_q (σ2 := aS σ1 v) h (r := iI (rgF v (rug v za.toNat) zb.toNat (3 + zc.toNat))) (σ1 := σ1) ?_ (hag.mono (fun t i j z => PP_Fr z)) ?_ (Ag.aS (Or.inl rfl))
    · unfold f_X_on
      rw [x_isRug h1 ha, b2s, if_pos hca, if_neg (by decide), x_within _ _ _ hb (by omega) (by omega), b2s, if_pos hcb, if_neg (by decide), x_within _ _ _ hcr (by omega) (by omega), b2s, if_pos hcc, if_neg (by decide), rd_iI (by omega) (by omega) (by decide), obs, q1, b2s, p1, b2s]
      obtain ⟨x0, x1, x2, x3, x4, x5, x6⟩ := p2
      rw [x3, x4, x5]
      have : zc = 0 ∨ zc = 1 ∨ zc = 2 := by omega
      rcases this with rfl | rfl | rfl
      · rw [if_pos rfl]
        rfl
      · rw [if_neg (by decide), if_pos rfl]
        rfl
      · rw [if_neg (by decide), if_neg (by decide)]
        rfl
    · have em := m_goes g1 (aS σ1 v) (n := zb.toNat) (by omega) (by omega)
      rw [← ez] at em
      have eg := goes_rgF (v := v) (r := rug v za.toNat) g1 c1 (fun i _ => rfl) (fun f _ => rfl) zb.toNat (f := 3 + zc.toNat) (by omega)
      have e : f_M_on (iI za) (iI zb) (iI zc) (sS σ1 v) = some (iI (rgF v (rug v za.toNat) zb.toNat (3 + zc.toNat)), aS (sS σ1 v) v) := by
        unfold f_M_on
        rw [m_isC g1 _ ha, b2s, if_pos hca, if_neg (by decide), m_in1 _ _ _ hb (by omega) (by omega), b2s, if_pos hcb, if_neg (by decide), m_in1 _ _ _ hcr (by omega) (by omega), b2s, if_pos hcc, if_neg (by decide), m_aside, b2s, asS, em, b2s, iI_add, c3, show 3 + zc = ((3 + zc.toNat : Nat) : Int) by omega, m_getN c2 (by omega), b2s, ← asS, m_back, b2s]
        rw [eg, asS]
        rfl
      rw [MS.keep h1 (PP_20 hag)] at e
      exact e
  · refine both_fo (k := 0) (by decide) h ?_ ?_
    · unfold f_X_on j_X_on_28
      rw [x_isRug h1 ha, b2s]
      by_cases k1 : 0 ≤ za ∧ za < v 2
      · rw [if_pos k1, if_neg (by decide), x_within _ _ _ hb (by omega) (by omega), b2s]
        by_cases k2 : 0 ≤ zb ∧ zb ≤ 200
        · rw [if_pos k2, if_neg (by decide), x_within _ _ _ hcr (by omega) (by omega), b2s, if_neg (fun z => hc ⟨k1, k2, z⟩), if_pos (by decide), x_found0, b2s]
          rfl
        · rw [if_neg k2, if_pos (by decide), x_found0, b2s]
          rfl
      · rw [if_neg k1, if_pos (by decide), x_found0, b2s]
        rfl
    · have e : f_M_on (iI za) (iI zb) (iI zc) (sS (foS σ 0) v) = some (iI (-1000000001), noS (sS (foS σ 0) v) 0) := by
        unfold f_M_on j_M_on_28
        rw [m_isC g1 _ ha, b2s]
        by_cases k1 : 0 ≤ za ∧ za < v 2
        · rw [if_pos k1, if_neg (by decide), m_in1 _ _ _ hb (by omega) (by omega), b2s]
          by_cases k2 : 0 ≤ zb ∧ zb ≤ 200
          · rw [if_pos k2, if_neg (by decide), m_in1 _ _ _ hcr (by omega) (by omega), b2s, if_neg (fun z => hc ⟨k1, k2, z⟩), if_pos (by decide), m_no0, b2s]
          · rw [if_neg k2, if_pos (by decide), m_no0, b2s]
        · rw [if_neg k1, if_pos (by decide), m_no0, b2s]
      rw [h1.fo] at e
      exact e
