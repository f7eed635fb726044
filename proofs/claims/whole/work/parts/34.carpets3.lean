/-! PURE: promises 12, 13, 8 -/
theorem v_isU {k : Nat} (x : Int32) (σ : Sg) : v_isOrIsUnder k x σ = some (if isU k x = true then iI 1 else iI 0, σ) := by
  unfold v_isOrIsUnder f_Kind_isOrIsUnder
  repeat' split
  all_goals rfl
theorem both_as (n : Nat) (a b : Int32) : Both n (f_X_as a b) (f_M_as a b) := by
  intro σ h
  obtain ⟨za, rfl, ha⟩ := toI a
  obtain ⟨zb, rfl, hb⟩ := toI b
  obtain ⟨v, kp, len, bs, h1, h2⟩ := id h
  have g1 := h1.2.2.1
  have hX := h1.2.1
  by_cases hc : (0 ≤ za ∧ za < v 2) ∧ (0 ≤ zb ∧ zb ≤ 5)
  · obtain ⟨hca, hcb⟩ := hc
    obtain ⟨c1, c2, c3⟩ := h1.lt hca
    have hR := hX.2 _ c1
    have hG := g1.rg c1
    have hXe : f_X_as (iI za) (iI zb) σ = if isU (rug v za.toNat 0).toNat (iI zb) = true then some (iI (rug v za.toNat 3), σ) else some (iI (-1000000003), foS σ 2) := by
      unfold f_X_as
      rw [x_isRug h1 ha, b2s, if_pos hca, if_neg (by decide), x_within _ _ _ hb (by omega) (by omega), b2s, if_pos hcb, if_neg (by decide), rd_iI (by omega) (by omega) (by decide), obs, hR.1, kd_ok hG, obs, v_isU, b2s, hR.2.2.2.1, x_found2, b2s]
      by_cases hq : isU (rug v za.toNat 0).toNat (iI zb) = true
      · rw [if_pos hq, if_pos hq, if_neg (by decide)]
      · rw [if_neg hq, if_neg hq, if_pos (by decide)]
    have hMe : ∀ τ, f_M_as (iI za) (iI zb) (sS τ v) = if isU (rug v za.toNat 0).toNat (iI zb) = true then some (iI (rug v za.toNat 3), sS τ v) else some (iI (-1000000003), noS (sS τ v) 2) := by
      intro τ
      obtain ⟨z, z1, z2, z3, z4⟩ := m_asLoop (iI ((za.toNat : Nat) : Int)) (sS τ v) hG.1 hcb
      unfold f_M_as j_M_as_62
      rw [m_isC g1 _ ha, b2s, if_pos hca, if_neg (by decide), m_in1 _ _ _ hb (by omega) (by omega), b2s, if_pos hcb, if_neg (by decide), c3, m_get0 c2, b2s, Int.toNat_natCast, z1, obs, m_get3 c2, b2s, m_no2, b2s]
      by_cases hq : isU (rug v za.toNat 0).toNat (iI zb) = true
      · rw [if_pos hq, if_pos (by rw [z4.mpr hq])]
      · rw [if_neg hq, if_neg (by rw [iI_eq (by omega) (by omega)]; exact fun e => hq (z4.mp e))]
    by_cases hq : isU (rug v za.toNat 0).toNat (iI zb) = true
    · refine both_q (σ1 := σ) (σ2 := σ) (r := iI (rug v za.toNat 3)) h (by rw [hXe, if_pos hq]) Ag.rf ?_ Ag.rf
      have e := hMe σ
      rw [if_pos hq, h1.self] at e
      exact e
    · refine both_fo (k := 2) (by decide) h (by rw [hXe, if_neg hq]; rfl) ?_
      have e := hMe (foS σ 2)
      rw [if_neg hq, h1.fo] at e
      exact e
  · refine both_fo (k := 0) (by decide) h ?_ ?_
    · unfold f_X_as j_X_as_17
      rw [x_isRug h1 ha, b2s]
      by_cases k1 : 0 ≤ za ∧ za < v 2
      · rw [if_pos k1, if_neg (by decide), x_within _ _ _ hb (by omega) (by omega), b2s, if_neg (fun z => hc ⟨k1, z⟩), if_pos (by decide), x_found0, b2s]
        rfl
      · rw [if_neg k1, if_pos (by decide), x_found0, b2s]
        rfl
    · have e : f_M_as (iI za) (iI zb) (sS (foS σ 0) v) = some (iI (-1000000001), noS (sS (foS σ 0) v) 0) := by
        unfold f_M_as j_M_as_17
        rw [m_isC g1 _ ha, b2s]
        by_cases k1 : 0 ≤ za ∧ za < v 2
        · rw [if_pos k1, if_neg (by decide), m_in1 _ _ _ hb (by omega) (by omega), b2s, if_neg (fun z => hc ⟨k1, z⟩), if_pos (by decide), m_no0, b2s]
        · rw [if_neg k1, if_pos (by decide), m_no0, b2s]
      rw [h1.fo] at e
      exact e
/-- rolled out -/
def lay (v : Ro) (c : Nat) (y : Int) : Ro := setRug (up v 1 (v 1 + 1)) c (up (up (rug v c) 5 y) 6 (v 1 + 1))
theorem lay_hd (v : Ro) (c : Nat) (y : Int) {i : Nat} (hi : i < 10) (h1 : i ≠ 1) : lay v c y i = v i := (setRug_hd hi).trans (up_ne h1)
theorem lay_1 (v : Ro) (c : Nat) (y : Int) : lay v c y 1 = v 1 + 1 := (setRug_hd (by decide)).trans up_same
theorem lay_mny (v : Ro) (c : Nat) (y : Int) : mny (lay v c y) = mny v := by
  unfold mny
  rw [lay_hd v c y (by decide) (by decide)]
theorem rug_up1 (v : Ro) (c : Nat) (x : Int) : rug (up v 1 x) c = rug v c := by
  funext f
  exact up_ne (by omega)
theorem lay_at (v : Ro) (c : Nat) (y : Int) {f : Nat} (hf : f < 7) : rug (lay v c y) c f = up (up (rug v c) 5 y) 6 (v 1 + 1) f := setRug_at hf
theorem lay_ne (v : Ro) {c j : Nat} (y : Int) {f : Nat} (hj : j ≠ c) (hf : f < 7) : rug (lay v c y) j f = rug v j f := by
  unfold lay
  rw [setRug_ne hj hf, rug_up1]
theorem gv_lay {n : Nat} {v : Ro} {c : Nat} {y : Int} (h : GV n v) (hn : n < 1000) (hc : c < mny v) (hy : 0 ≤ y ∧ y ≤ 39) : GV (n + 1) (lay v c y) := by
  obtain ⟨g1, g2, g3, g4, g5⟩ := h
  obtain ⟨k0, k1, k2, k3, k4⟩ := id g1
  have hG := g1.rg hc
  have hmn := mny_eq g1
  have hro : ∀ j, j < mny v → 0 ≤ rug (lay v c y) j 5 → j = c ∨ (j ≠ c ∧ 0 ≤ rug v j 5 ∧ rug (lay v c y) j 6 = rug v j 6 ∧ rug v j 6 ≤ v 1) := by
    intro j hj h5
    by_cases e : j = c
    · exact Or.inl e
    · rw [lay_ne v y e (by decide)] at h5
      exact Or.inr ⟨e, h5, lay_ne v y e (by decide), g5 j hj h5⟩
  have h6 : rug (lay v c y) c 6 = v 1 + 1 := by rw [lay_at v c y (by decide), up_same]
  refine ⟨⟨by rw [lay_hd v c y (by decide) (by decide)]; exact k0, by rw [lay_1]; omega, by rw [lay_hd v c y (by decide) (by decide)]; exact k2, fun i hi => by rw [lay_hd v c y (by omega) (by omega)]; exact k3 i hi, fun j hj => ?_⟩, by rw [lay_hd v c y (by decide) (by decide)]; exact g2, ?_, by rw [lay_1]; omega, ?_⟩
  · rw [lay_hd v c y (by decide) (by decide)] at hj
    by_cases e : j = c
    · subst e
      refine GR.cong (fun f hf => lay_at v j y hf) ((hG.set (f := 5) (x := y) (by omega) (by omega) (by omega) (by omega) (by omega) (by omega) (by omega)).set (f := 6) (x := v 1 + 1) (by omega) (by omega) (by omega) (by omega) (by omega) (by omega) (by omega))
    · exact GR.cong (fun f hf => lay_ne v y e hf) (k4 j hj)
  · intro p q hp hq op oq e
    rw [lay_mny] at hp hq
    rcases hro p hp op with r1 | ⟨r1, r2, r3, r4⟩ <;> rcases hro q hq oq with t1 | ⟨t1, t2, t3, t4⟩
    · rw [r1, t1]
    · rw [r1, h6, t3] at e
      omega
    · rw [t1, h6, r3] at e
      omega
    · rw [r3, t3] at e
      exact g3 p q hp hq r2 t2 e
  · intro j hj oj
    rw [lay_mny] at hj
    rw [lay_1]
    rcases hro j hj oj with r1 | ⟨r1, r2, r3, r4⟩
    · rw [r1, h6]
      omega
    · rw [r3]
      omega
theorem x_layOut {σ : Sg} {w : Nat} {v : Ro} (h : XW σ w v) (hv : 0 ≤ v 1 ∧ v 1 < 99998) {c : Nat} (hc : c < mny v) (y : Int) : ∃ σ', f_World_layOut w w c (iI y) σ = some ((), σ') ∧ XW σ' w (lay v c y) ∧ Ag (PW w) σ σ' := by
  have e1 : (if σ.1 1 w 0 2 + iI 1 < iI 99999 then σ.1 1 w 0 2 + iI 1 else iI 99999) = iI (v 1 + 1) := by
    rw [h.1.2.2.1, iI_add]
    simp (disch := omega) only [iI_lt]
    rw [if_pos (by omega)]
  unfold f_World_layOut
  rw [e1]
  have q1 : PW w 1 w 0 := ⟨Or.inl rfl, rfl⟩
  have q2 : PW w 2 w c := ⟨Or.inr (Or.inl rfl), rfl⟩
  have e2 : (upI σ 1 w 0 2 (iI (v 1 + 1))).1 1 w 0 2 = iI (v 1 + 1) := by simp [upI_1]
  rw [e2]
  refine ⟨_, rfl, ⟨⟨?_, ?_, ?_, ?_⟩, ?_⟩, ((Ag.upI q1).tr (Ag.upI q2)).tr (Ag.upI q2)⟩
  · rw [lay_hd v c y (by decide) (by decide)]
    simp [upI_1, h.1.1]
  · rw [lay_hd v c y (by decide) (by decide)]
    simp [upI_1, h.1.2.1]
  · rw [lay_1]
    simp [upI_1]
  · intro i hi
    rw [lay_hd v c y (by omega) (by omega)]
    simp [upI_1, h.1.2.2.2 i hi]
  · intro j hj
    rw [lay_mny] at hj
    obtain ⟨x0, x1, x2, x3, x4, x5, x6⟩ := h.2 j hj
    by_cases e : j = c
    · subst e
      refine XR.cong (r := up (up (rug v j) 5 y) 6 (v 1 + 1)) ?_ (fun f hf => lay_at v j y hf)
      refine ⟨x0, ?_, ?_, ?_, ?_, ?_, fun z => ?_⟩
      · simp [upI_1, up, x1]
      · simp [upI_1, up, x2]
      · simp [upI_1, up, x3]
      · simp [upI_1, up, x4]
      · simp [upI_1, up]
      · simp [upI_1, up]
    · refine XR.cong (r := rug v j) ?_ (fun f hf => lay_ne v y e hf)
      refine ⟨x0, ?_, ?_, ?_, ?_, ?_, fun z => ?_⟩
      · simp [upI_1, e, x1]
      · simp [upI_1, e, x2]
      · simp [upI_1, e, x3]
      · simp [upI_1, e, x4]
      · simp [upI_1, e, x5]
      · simp [upI_1, e, x6 z]
theorem m_rollsOut {v : Ro} (g1 : GS v) (σ : Sg) (hv : v 1 < 99998) {c : Nat} (hc : c < mny v) (y : Int) : f_M_rollsOut (iI (c : Int)) (iI y) (sS σ v) = some ((), sS σ (lay v c y)) := by
  have hm := mny_le g1
  obtain ⟨-, k1, -⟩ := id g1
  unfold f_M_rollsOut
  rw [rd_1, obs, sS_at (by decide), iI_add, m_less _ _ (by omega) (by omega), b2s, obs, if_neg (by omega), sS_up (by decide), m_puts5 (by omega), b2s, obs, sS_at (by decide), up_hd (by decide), up_same, m_puts6 (by omega), b2s]
  unfold lay
  rw [up_set (s := up v 1 (v 1 + 1)) (k := c) (f := 5) (by decide), up_setRug (by decide), rug_up1]
theorem both_roll (n : Nat) (hn : n < 1000) (a b : Int32) : Both n (f_X_roll a b) (f_M_roll a b) := by
  intro σ h
  obtain ⟨za, rfl, ha⟩ := toI a
  obtain ⟨zb, rfl, hb⟩ := toI b
  obtain ⟨v, kp, len, bs, h1, h2⟩ := id h
  have g1 := h1.2.2.1
  have hX := h1.2.1
  have hv1 : 0 ≤ v 1 ∧ v 1 < 99998 := by
    have := h1.2.2.2.2.2.1
    have := g1.2.1
    omega
  by_cases hc : (0 ≤ za ∧ za < v 2) ∧ (0 ≤ zb ∧ zb ≤ 39)
  · obtain ⟨hca, hcb⟩ := hc
    obtain ⟨c1, c2, c3⟩ := h1.lt hca
    have hR := hX.2 _ c1
    have hG := g1.rg c1
    have hG3 : 0 ≤ rug v za.toNat 3 ∧ rug v za.toNat 3 ≤ 99 := hG.2.2.2.1
    by_cases hp : rug v za.toNat 3 = 0
    · refine both_fo (k := 4) (by decide) h ?_ ?_
      · unfold f_X_roll
        rw [x_isRug h1 ha, b2s, if_pos hca, if_neg (by decide), x_within _ _ _ hb (by omega) (by omega), b2s, if_pos hcb, if_neg (by decide), rd_iI (by omega) (by omega) (by decide), obs, hR.2.2.2.1, hp, if_pos rfl, x_found4, b2s]
        rfl
      · have e : f_M_roll (iI za) (iI zb) (sS (foS σ 4) v) = some (iI (-1000000005), noS (sS (foS σ 4) v) 4) := by
          unfold f_M_roll
          rw [m_isC g1 _ ha, b2s, if_pos hca, if_neg (by decide), m_isY _ hb, b2s, if_pos hcb, if_neg (by decide), c3, m_get3 c2, b2s, hp, if_pos rfl, m_no4, b2s]
        rw [h1.fo] at e
        exact e
    · obtain ⟨σ1, q1, q2, q3⟩ := x_layOut hX hv1 c1 zb
      have hGl := gv_lay h1.2.2 hn c1 hcb
      have c1' : za.toNat < mny (lay v za.toNat zb) := by rw [lay_mny]; exact c1
      have hRl := q2.2 _ c1'
      have hGr := hGl.1.rg c1'
      have e5 : rug (lay v za.toNat zb) za.toNat 5 = zb := by rw [lay_at v _ zb (by decide)]; rfl
      have hrr := reach_rg hGr
      have e20 : σ1.1 20 = σ.1 20 := by
        funext i j k
        rw [(q3 20 i j (by simp [PW])).1]
      have hcov : cover (rug (lay v za.toNat zb) za.toNat) = if reach (rug (lay v za.toNat zb) za.toNat) < 40 - zb then reach (rug (lay v za.toNat zb) za.toNat) else 40 - zb := by
        unfold cover
        rw [e5, if_pos hcb.1]
        by_cases k1 : 40 - zb < reach (rug (lay v za.toNat zb) za.toNat)
        · rw [if_pos k1, if_neg (by omega)]
        · rw [if_neg k1]
          by_cases k2 : reach (rug (lay v za.toNat zb) za.toNat) < 40 - zb
          · rw [if_pos k2]
          · rw [if_neg k2]; omega
      refine ⟨iI (cover (rug (lay v za.toNat zb) za.toNat)), σ1, sS σ1 (lay v za.toNat zb), ?_, ?_, ?_⟩
      · unfold f_X_roll
        rw [x_isRug h1 ha, b2s, if_pos hca, if_neg (by decide), x_within _ _ _ hb (by omega) (by omega), b2s, if_pos hcb, if_neg (by decide), rd_iI (by omega) (by omega) (by decide), obs, hR.2.2.2.1, if_neg (by rw [iI_eq (by omega) (by omega)]; exact hp), q1, b2s, x_cover hRl hGr, b2s]
      · have e : f_M_roll (iI za) (iI zb) (sS σ1 v) = some (iI (cover (rug (lay v za.toNat zb) za.toNat)), sS σ1 (lay v za.toNat zb)) := by
          unfold f_M_roll
          have mr := m_reach (σ := σ1) hGl.1 c1'
          rw [m_isC g1 _ ha, b2s, if_pos hca, if_neg (by decide), m_isY _ hb, b2s, if_pos hcb, if_neg (by decide), c3, m_get3 c2, b2s, if_neg (by rw [iI_eq (by omega) (by omega)]; exact hp), m_rollsOut g1 σ1 hv1.2 c1, b2s, Int.toNat_natCast, mr, b2s, iI_sub, m_less _ _ (by omega) (by omega), b2s, hcov]
        rw [MS.keep h1 e20] at e
        exact e
      · refine h.wld ((q3.mono (fun t i j z => ?_)).tr (Ag.sS (Or.inl rfl))) (fun j hj => sS_at hj) (q2.ag (Ag.sS (P := fun t _ _ => t = 20) rfl) (by simp) (by simp) (by simp)) hGl
        unfold PW at z
        unfold PWl
        omega
  · refine both_fo (k := 0) (by decide) h ?_ ?_
    · unfold f_X_roll j_X_roll_18
      rw [x_isRug h1 ha, b2s]
      by_cases k1 : 0 ≤ za ∧ za < v 2
      · rw [if_pos k1, if_neg (by decide), x_within _ _ _ hb (by omega) (by omega), b2s, if_neg (fun z => hc ⟨k1, z⟩), if_pos (by decide), x_found0, b2s]
        rfl
      · rw [if_neg k1, if_pos (by decide), x_found0, b2s]
        rfl
    · have e : f_M_roll (iI za) (iI zb) (sS (foS σ 0) v) = some (iI (-1000000001), noS (sS (foS σ 0) v) 0) := by
        unfold f_M_roll j_M_roll_15
        rw [m_isC g1 _ ha, b2s]
        by_cases k1 : 0 ≤ za ∧ za < v 2
        · rw [if_pos k1, if_neg (by decide), m_isY _ hb, b2s, if_neg (fun z => hc ⟨k1, z⟩), if_pos (by decide), m_no0, b2s]
        · rw [if_neg k1, if_pos (by decide), m_no0, b2s]
      rw [h1.fo] at e
      exact e
