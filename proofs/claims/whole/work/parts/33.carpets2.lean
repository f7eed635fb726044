/-! PURE: promises 9, 10, 12, 13 -/
theorem ite10 {c : Prop} [Decidable c] : ((if c then iI 1 else iI 0) = iI 0) = ¬ c := by
  by_cases h : c
  · rw [if_pos h]
    exact propext ⟨fun z => absurd z (by decide), fun z => absurd h z⟩
  · rw [if_neg h]
    exact propext ⟨fun _ => h, fun _ => rfl⟩
theorem set_done {n : Nat} {σ : Sg} {v : Ro} {c f : Nat} {z : Int} (h : Inv n σ) (h1 : IW n σ v) (hc : c < mny v) (hf : (f = 1 ∧ 0 ≤ z ∧ z ≤ 3) ∨ (f = 2 ∧ 1 ≤ z ∧ z ≤ 20) ∨ (f = 3 ∧ 0 ≤ z ∧ z ≤ 99) ∨ (f = 4 ∧ 0 ≤ z ∧ z ≤ 9)) : Inv (n + 1) (sS (upI σ 2 0 c f (iI z)) (setRug v c (up (rug v c) f z))) := by
  have hR := h1.2.1.2 c hc
  have hG := h1.2.2.1.rg hc
  refine h.rug h1 hc (hG.set (by omega) (by omega) (by omega) (by omega) (by omega) (by omega) (by omega)) (fun q => ⟨by rw [up_ne (by omega)] at q; exact q, up_ne (by omega)⟩) ((Ag.upI (Or.inr ⟨rfl, rfl, rfl⟩)).tr (Ag.sS (Or.inl rfl))) (fun j hj => sS_at hj) ?_
  refine XR.ag (σ := upI σ 2 0 c f (iI z)) ?_ (Ag.sS (P := fun t _ _ => t = 20) rfl) (by simp)
  obtain ⟨x0, x1, x2, x3, x4, x5, x6⟩ := hR
  rcases hf with ⟨rfl, -⟩ | ⟨rfl, -⟩ | ⟨rfl, -⟩ | ⟨rfl, -⟩
  all_goals
    refine ⟨x0, ?_, ?_, ?_, ?_, ?_, fun q => ?_⟩
    · simp [upI_1, up, x1]
    · simp [upI_1, up, x2]
    · simp [upI_1, up, x3]
    · simp [upI_1, up, x4]
    · simp [upI_1, up, x5]
    · simp [upI_1, up]; exact x6 q
theorem m_set_ok {v : Ro} (g1 : GS v) (σ : Sg) {c f : Nat} {z : Int} (hz : -2147483648 ≤ z ∧ z < 2147483648) (hc : c < mny v) (hf : (f = 1 ∧ 0 ≤ z ∧ z ≤ 3) ∨ (f = 2 ∧ 1 ≤ z ∧ z ≤ 20) ∨ (f = 3 ∧ 0 ≤ z ∧ z ≤ 99) ∨ (f = 4 ∧ 0 ≤ z ∧ z ≤ 9)) : f_M_set (iI (c : Int)) (iI (f : Int)) (iI z) (sS σ v) = some (iI (rug v c f), sS σ (setRug v c (up (rug v c) f z))) := by
  have hm := mny_le g1
  have he := mny_eq g1
  have hg := m_getN (σ := σ) (s := v) (k := c) (f := f) (by omega) (by omega)
  have hp := m_putsN (σ := σ) (s := v) (k := c) (f := f) (by omega) (by omega) z
  unfold f_M_set j_M_set_31 j_M_set_61 j_M_set_69
  simp (disch := omega) only [m_isC g1, m_in1, b2s, ite10, iI_eq, hg, hp, up_set]
  repeat' split
  all_goals first | rfl | (exfalso; omega)
theorem m_set_no {v : Ro} (g1 : GS v) (σ : Sg) {c f z : Int} (hc : -2147483648 ≤ c ∧ c < 2147483648) (hff : -2147483648 ≤ f ∧ f < 2147483648) (hz : -2147483648 ≤ z ∧ z < 2147483648) (hn : ¬ ((0 ≤ c ∧ c < v 2) ∧ ((f = 1 ∧ 0 ≤ z ∧ z ≤ 3) ∨ (f = 2 ∧ 1 ≤ z ∧ z ≤ 20) ∨ (f = 3 ∧ 0 ≤ z ∧ z ≤ 99) ∨ (f = 4 ∧ 0 ≤ z ∧ z ≤ 9)))) : f_M_set (iI c) (iI f) (iI z) (sS σ v) = some (iI (-1000000001), noS (sS σ v) 0) := by
  obtain ⟨-, -, h3, -⟩ := id g1
  unfold f_M_set j_M_set_31 j_M_set_61 j_M_set_69
  simp (disch := omega) only [m_isC g1, m_in1, b2s, ite10, iI_eq, m_no0]
  repeat' split
  all_goals first | rfl | (exfalso; omega)
theorem x_maySet (σ : Sg) {f z : Int} (hff : -2147483648 ≤ f ∧ f < 2147483648) (hz : -2147483648 ≤ z ∧ z < 2147483648) : f_X_maySet (iI f) (iI z) σ = some (if (f = 1 ∧ 0 ≤ z ∧ z ≤ 3) ∨ (f = 2 ∧ 1 ≤ z ∧ z ≤ 20) ∨ (f = 3 ∧ 0 ≤ z ∧ z ≤ 99) ∨ (f = 4 ∧ 0 ≤ z ∧ z ≤ 9) then iI 1 else iI 0, σ) := by
  unfold f_X_maySet
  simp (disch := omega) only [x_within, b2s, bo_if, obs, iI_eq]
  repeat' split
  all_goals first | rfl | (exfalso; omega)
theorem both_set (n : Nat) (a b d : Int32) : Both n (f_X_set a b d) (f_M_set a b d) := by
  intro σ h
  obtain ⟨za, rfl, ha⟩ := toI a
  obtain ⟨zb, rfl, hb⟩ := toI b
  obtain ⟨zd, rfl, hd⟩ := toI d
  obtain ⟨v, kp, len, bs, h1, h2⟩ := id h
  have g1 := h1.2.2.1
  by_cases hc : (0 ≤ za ∧ za < v 2) ∧ ((zb = 1 ∧ 0 ≤ zd ∧ zd ≤ 3) ∨ (zb = 2 ∧ 1 ≤ zd ∧ zd ≤ 20) ∨ (zb = 3 ∧ 0 ≤ zd ∧ zd ≤ 99) ∨ (zb = 4 ∧ 0 ≤ zd ∧ zd ≤ 9))
  · obtain ⟨hca, hcb⟩ := hc
    obtain ⟨c1, c2, c3⟩ := h1.lt hca
    have hR := h1.2.1.2 _ c1
    have eb : zb = ((zb.toNat : Nat) : Int) := by omega
    have hcf : (zb.toNat = 1 ∧ 0 ≤ zd ∧ zd ≤ 3) ∨ (zb.toNat = 2 ∧ 1 ≤ zd ∧ zd ≤ 20) ∨ (zb.toNat = 3 ∧ 0 ≤ zd ∧ zd ≤ 99) ∨ (zb.toNat = 4 ∧ 0 ≤ zd ∧ zd ≤ 9) := by omega
    refine ⟨iI (rug v za.toNat zb.toNat), upI σ 2 0 za.toNat zb.toNat (iI zd), sS (upI σ 2 0 za.toNat zb.toNat (iI zd)) (setRug v za.toNat (up (rug v za.toNat) zb.toNat zd)), ?_, ?_, set_done h h1 c1 hcf⟩
    · unfold f_X_set
      rw [x_isRug h1 ha, b2s, if_pos hca, if_neg (by decide), x_maySet _ hb hd, b2s, if_pos hcb, if_neg (by decide), rd_iI (by omega) (by omega) (by decide), obs]
      obtain ⟨x0, x1, x2, x3, x4, x5, x6⟩ := hR
      unfold f_Rug_valueOf f_Rug_putValue
      rcases hcb with ⟨e, -⟩ | ⟨e, -⟩ | ⟨e, -⟩ | ⟨e, -⟩ <;> subst e
      · show some (σ.1 2 0 za.toNat 1, _) = _
        rw [x1]; rfl
      · show some (σ.1 2 0 za.toNat 2, _) = _
        rw [x2]; rfl
      · show some (σ.1 2 0 za.toNat 3, _) = _
        rw [x3]; rfl
      · show some (σ.1 2 0 za.toNat 4, _) = _
        rw [x4]; rfl
    · have e := m_set_ok g1 (upI σ 2 0 za.toNat zb.toNat (iI zd)) hd c1 hcf
      rw [← c3, ← eb, MS.keep (σ' := upI σ 2 0 za.toNat zb.toNat (iI zd)) h1 (upI_20 (by decide))] at e
      exact e
  · refine both_fo (k := 0) (by decide) h ?_ ?_
    · unfold f_X_set j_X_set_16
      rw [x_isRug h1 ha, b2s]
      by_cases k1 : 0 ≤ za ∧ za < v 2
      · rw [if_pos k1, if_neg (by decide), x_maySet _ hb hd, b2s, if_neg (fun z => hc ⟨k1, z⟩), if_pos (by decide), x_found0, b2s]
        rfl
      · rw [if_neg k1, if_pos (by decide), x_found0, b2s]
        rfl
    · have e := m_set_no g1 (foS σ 0) ha hb hd hc
      rw [h1.fo] at e
      exact e
theorem both_of (n : Nat) (a b : Int32) : Both n (f_X_of a b) (f_M_of a b) := by
  intro σ h
  obtain ⟨za, rfl, ha⟩ := toI a
  obtain ⟨zb, rfl, hb⟩ := toI b
  obtain ⟨v, kp, len, bs, h1, h2⟩ := id h
  have g1 := h1.2.2.1
  have hX := h1.2.1
  by_cases hc : (0 ≤ za ∧ za < v 2) ∧ (0 ≤ zb ∧ zb ≤ 9)
  · obtain ⟨hca, hcb⟩ := hc
    obtain ⟨c1, c2, c3⟩ := h1.lt hca
    have hR := hX.2 _ c1
    have hG := g1.rg c1
    have hw := wet_01 g1
    have hwt : f_World_wetAhead 0 (iI 0) σ = some (iI (wet v), σ) := x_wet hX.1 g1 (d := 0) (by decide)
    have hG0 : 0 ≤ rug v za.toNat 0 ∧ rug v za.toNat 0 ≤ 5 := hG.1
    refine both_q (σ1 := σ) (σ2 := σ) (r := if zb = 6 then iI (reach (rug v za.toNat)) else if zb = 7 then iI (wears (rug v za.toNat) (wet v)) else if zb = 8 then iI (breeds (rug v za.toNat) (wet v)) else if zb = 9 then iI (beaten (rug v za.toNat)) else iI (rug v za.toNat zb.toNat)) h ?_ Ag.rf ?_ Ag.rf
    · unfold f_X_of f_Rug_valueOf
      rw [x_isRug h1 ha, b2s, if_pos hca, if_neg (by decide), rd_iI (by omega) (by omega) (by decide), obs, hR.1, kd_ok hG, obs, obs, obs, obs, obs, x_reaches hR hG, hwt, b2s, b2s, b2s, x_wears hR hG hw, x_breeds hG hw, x_gains hR hG, b2s, b2s, b2s, ← iN, show (((rug v za.toNat 0).toNat : Nat) : Int) = rug v za.toNat 0 by omega]
      obtain ⟨x0, x1, x2, x3, x4, x5, x6⟩ := hR
      rw [x1, x2, x3, x4, x5]
      rcases (show zb = 0 ∨ zb = 1 ∨ zb = 2 ∨ zb = 3 ∨ zb = 4 ∨ zb = 5 ∨ zb = 6 ∨ zb = 7 ∨ zb = 8 ∨ zb = 9 by omega) with e | e | e | e | e | e | e | e | e | e <;> subst e <;> (repeat first | rw [if_neg (by decide)] | rw [if_pos (by decide)]) <;> rfl
    · have e : f_M_of (iI za) (iI zb) (sS σ v) = some (if zb = 6 then iI (reach (rug v za.toNat)) else if zb = 7 then iI (wears (rug v za.toNat) (wet v)) else if zb = 8 then iI (breeds (rug v za.toNat) (wet v)) else if zb = 9 then iI (beaten (rug v za.toNat)) else iI (rug v za.toNat zb.toNat), sS σ v) := by
        unfold f_M_of
        rw [m_isC g1 σ ha, b2s, if_pos hca, if_neg (by decide), m_in1 _ _ _ hb (by omega) (by omega), b2s, if_pos hcb, if_neg (by decide)]
        have m1 := m_reach (σ := σ) g1 c1
        have m2 := m_wears (σ := σ) g1 c1
        have m3 := m_breeds (σ := σ) g1 c1
        have m4 := m_beaten (σ := σ) g1 c1
        rw [← c3] at m1 m2 m3 m4
        rw [m1, m2, m3, m4, b2s, b2s, b2s, b2s]
        by_cases k6 : zb ≤ 5
        · have mg := m_getN (σ := σ) (s := v) (k := za.toNat) (f := zb.toNat) c2 (by omega)
          rw [← c3, show ((zb.toNat : Nat) : Int) = zb by omega] at mg
          rw [mg, b2s]
          simp (disch := omega) only [iI_eq]
          repeat' split
          all_goals first | rfl | (exfalso; omega)
        · simp (disch := omega) only [iI_eq]
          repeat' split
          all_goals first | rfl | (exfalso; omega)
      rw [h1.self] at e
      exact e
  · refine both_fo (k := 0) (by decide) h ?_ ?_
    · unfold f_X_of
      rw [x_isRug h1 ha, b2s]
      by_cases k1 : 0 ≤ za ∧ za < v 2
      · have k2 : ¬ (0 ≤ zb ∧ zb ≤ 9) := fun z => hc ⟨k1, z⟩
        obtain ⟨c1, c2, c3⟩ := h1.lt k1
        rw [if_pos k1, if_neg (by decide), rd_iI (by omega) (by omega) (by decide), obs, x_found0, b2s, if_neg (by rw [iI_eq (by omega) (by omega)]; omega), if_neg (by rw [iI_eq (by omega) (by omega)]; omega), if_neg (by rw [iI_eq (by omega) (by omega)]; omega), if_neg (by rw [iI_eq (by omega) (by omega)]; omega), if_neg (by rw [iI_eq (by omega) (by omega)]; omega), if_neg (by rw [iI_eq (by omega) (by omega)]; omega), if_neg (by rw [iI_eq (by omega) (by omega)]; omega), if_neg (by rw [iI_eq (by omega) (by omega)]; omega), if_neg (by rw [iI_eq (by omega) (by omega)]; omega), if_neg (by rw [iI_eq (by omega) (by omega)]; omega)]
        rfl
      · rw [if_neg k1, if_pos (by decide), x_found0, b2s]
        rfl
    · have e : f_M_of (iI za) (iI zb) (sS (foS σ 0) v) = some (iI (-1000000001), noS (sS (foS σ 0) v) 0) := by
        unfold f_M_of j_M_of_18
        rw [m_isC g1 _ ha, b2s]
        by_cases k1 : 0 ≤ za ∧ za < v 2
        · rw [if_pos k1, if_neg (by decide), m_in1 _ _ _ hb (by omega) (by omega), b2s, if_neg (fun z => hc ⟨k1, z⟩), if_pos (by decide), m_no0, b2s]
        · rw [if_neg k1, if_pos (by decide), m_no0, b2s]
      rw [h1.fo] at e
      exact e
/-- as one of a kind: the reference's way up -/
theorem m_asLoop (x : Int32) (σ : Sg) {k : Int} (hk : 0 ≤ k ∧ k ≤ 5) {q : Int} (hq : 0 ≤ q ∧ q ≤ 5) : ∃ z : Int, lp (fun a => b_M_as_30 x (iI q) a.1 a.2) FU (iI k, σ) = some (iI z, σ) ∧ 0 ≤ z ∧ z ≤ 5 ∧ (z = q ↔ isU k.toNat (iI q) = true) := by
  have st : ∀ (m : Nat) (k : Int), 0 ≤ k ∧ k ≤ 5 → lp (fun a => b_M_as_30 x (iI q) a.1 a.2) (m + 1) (iI k, σ) = if k = q then some (iI k, σ) else if k = 0 then some (iI k, σ) else if k = 4 then lp (fun a => b_M_as_30 x (iI q) a.1 a.2) m (iI 1, σ) else if k = 5 then lp (fun a => b_M_as_30 x (iI q) a.1 a.2) m (iI 2, σ) else lp (fun a => b_M_as_30 x (iI q) a.1 a.2) m (iI 0, σ) := by
    intro m k hk
    rw [lp]
    unfold b_M_as_30
    simp (disch := omega) only [iI_eq]
    by_cases e1 : k = q
    · rw [if_pos e1, if_pos e1]
    · rw [if_neg e1, if_neg e1]
      by_cases e2 : k = 0
      · rw [if_pos e2, if_pos e2]
      · rw [if_neg e2, if_neg e2]
        by_cases e3 : k = 4
        · rw [if_pos e3, if_pos e3]
        · rw [if_neg e3, if_neg e3]
          by_cases e4 : k = 5
          · rw [if_pos e4, if_pos e4]
          · rw [if_neg e4, if_neg e4]
  have hF : FU = 1997 + 1 + 1 + 1 := rfl
  rw [hF]
  rcases (show k = 0 ∨ k = 1 ∨ k = 2 ∨ k = 3 ∨ k = 4 ∨ k = 5 by omega) with e | e | e | e | e | e <;> subst e <;> rcases (show q = 0 ∨ q = 1 ∨ q = 2 ∨ q = 3 ∨ q = 4 ∨ q = 5 by omega) with e | e | e | e | e | e <;> subst e <;> simp [st] <;> first | exact ⟨0, rfl, by decide⟩ | exact ⟨1, rfl, by decide⟩ | exact ⟨2, rfl, by decide⟩ | exact ⟨3, rfl, by decide⟩ | exact ⟨4, rfl, by decide⟩ | exact ⟨5, rfl, by decide⟩
