/-! PURE: sheet, copy (side by side) -/
theorem both_sheet (n : Nat) (a b c : Int32) : Both n (f_X_sheet a b c) (f_M_sheet a b c) := by
  intro σ h
  obtain ⟨za, rfl, ha⟩ := toI a
  obtain ⟨zc, rfl, hc⟩ := toI c
  obtain ⟨v, kp, len, bs, h1, h2, h3, h4, h5⟩ := id h
  by_cases hca : 0 ≤ za ∧ za ≤ 3
  · obtain ⟨s, hs⟩ : ∃ s : Nat, za = (s : Int) := ⟨za.toNat, by omega⟩
    subst hs
    have hs4 : s < 4 := by omega
    by_cases hb : b = iI 0 ∨ b = iI 8 ∨ b = iI 16 ∨ b = iI 64
    · have eX : ∀ τ, f_X_sheet (iI (s : Int)) b (iI zc) τ = j_X_sheet_37 (iI (s : Int)) b (iI zc) τ := by
        intro τ
        unfold f_X_sheet
        rw [x_isSheet ha, b2s, if_pos hca, if_neg (by decide)]
        rcases hb with e | e | e | e <;> subst e <;> (repeat first | rw [if_neg (by decide)] | rw [if_pos (by decide)])
      have eM : ∀ τ, f_M_sheet (iI (s : Int)) b (iI zc) τ = j_M_sheet_35 (iI (s : Int)) b (iI zc) τ := by
        intro τ
        unfold f_M_sheet
        rw [m_isSheet ha, b2s, if_pos hca, if_neg (by decide)]
        rcases hb with e | e | e | e <;> subst e <;> (repeat first | rw [if_neg (by decide)] | rw [if_pos (by decide)])
      by_cases hn0 : 0 ≤ zc
      · by_cases hn4 : zc ≤ 40
        · obtain ⟨z, z1, zX, zM⟩ : ∃ z : Nat, z ≤ 40 ∧ (∀ τ, j_X_sheet_37 (iI (s : Int)) b (iI zc) τ = j_X_sheet_78 (iI (s : Int)) (iI (z : Int)) b s τ) ∧ (∀ τ, j_M_sheet_35 (iI (s : Int)) b (iI zc) τ = j_M_sheet_79 (iI (s : Int)) (iI (z : Int)) (iI (s : Int)) (upI τ 28 0 0 s b)) := by
            refine ⟨if b = iI 0 then 0 else zc.toNat, ?_, fun τ => ?_, fun τ => ?_⟩
            · split <;> omega
            · unfold j_X_sheet_37
              rw [if_pos (by rw [iI_le (by omega) (by omega)]; omega), if_pos (by rw [iI_le (by omega) (by omega)]; omega), rd_N hs4 (by decide), obs]
              by_cases e : b = iI 0
              · rw [if_pos e, if_pos e]; rfl
              · rw [if_neg e, if_neg e, show ((zc.toNat : Nat) : Int) = zc by omega]
            · unfold j_M_sheet_35
              rw [if_pos (by rw [iI_le (by omega) (by omega)]; omega), if_pos (by rw [iI_le (by omega) (by omega)]; omega), rd_N hs4 (by decide), obs]
              by_cases e : b = iI 0
              · rw [if_pos e, if_pos e]; rfl
              · rw [if_neg e, if_neg e, show ((zc.toNat : Nat) : Int) = zc by omega]
          obtain ⟨σ1, q1, q2, q3, q4, q5⟩ := x_begin σ s b (iI (z : Int))
          obtain ⟨σ2, p1, p2, p3, p4, p5⟩ := m_begin (upI (upI σ1 28 0 0 s b) 29 0 0 s (iI (z : Int))) hs4
          have hA : Ag (fun t i j => ((t = 3 ∨ t = 17) ∧ i = s ∧ j = 0) ∨ t = 28 ∨ t = 29 ∨ t = 30) σ σ2 := (q2.mono (fun t i j z => Or.inl z)).tr (((Ag.upI (by simp)).tr (Ag.upI (by simp))).tr (p3.mono (fun t i j z => Or.inr (Or.inr (Or.inr z)))))
          refine ⟨iI (z : Int), σ1, σ2, ?_, ?_, v, kp, len, bs, (h1.mono (by omega)).ag hA (by simp) (by simp) (by simp) (by simp), (h2.mono (by omega)).ag hA (by simp) (by simp) (by simp) (by simp) (by simp) (by simp), h3.ag hA (by simp) (by simp), h4.ag hA (by simp) (by simp) (by simp) (by simp), ?_⟩
          · rw [eX, zX]
            unfold j_X_sheet_78
            rw [q1, b2s, rd_N hs4 (by decide), obs, q4]
          · rw [eM, zM]
            unfold j_M_sheet_79
            rw [rd_N hs4 (by decide), obs, p1, obs, obs, p2, upI_1, if_pos ⟨rfl, rfl, rfl, rfl⟩]
          · intro t ht
            obtain ⟨j1, j2, j3, j4⟩ := h5 t ht
            have e28 : σ2.1 28 0 0 t = if t = s then b else σ.1 28 0 0 t := by
              rw [p2, upI_1, if_neg (fun z => absurd z.1 (by decide)), upI_1, (q2 28 0 0 (by simp)).1]
              by_cases e : t = s
              · rw [if_pos ⟨rfl, rfl, rfl, e⟩, if_pos e]
              · rw [if_neg (fun z => e z.2.2.2), if_neg e]
            have e29 : σ2.1 29 0 0 t = if t = s then iI (z : Int) else σ.1 29 0 0 t := by
              rw [p2, upI_1, upI_1, (q2 29 0 0 (by simp)).1]
              by_cases e : t = s
              · rw [if_pos ⟨rfl, rfl, rfl, e⟩, if_pos e]
              · rw [if_neg (fun z => e z.2.2.2), if_neg e, if_neg (fun z => absurd z.1 (by decide))]
            have e3 : ∀ k, σ2.1 3 t 0 k = σ1.1 3 t 0 k := fun k => by rw [p2, upI_1, if_neg (fun z => absurd z.1 (by decide)), upI_1, if_neg (fun z => absurd z.1 (by decide))]
            have e17 : σ2.2.1 17 t 0 = σ1.2.1 17 t 0 := (p3 17 t 0 (by simp)).2.1
            rw [e3 0, e3 1, e28, e29, e17]
            by_cases e : t = s
            · subst e
              rw [if_pos rfl, if_pos rfl, q3, q4]
              exact ⟨rfl, hb, ⟨z, z1, rfl, rfl⟩, fun i hi => by rw [q5 i hi, p4 i hi]⟩
            · rw [if_neg e, if_neg e, (q2 3 t 0 (by simp [e])).1]
              refine ⟨j1, j2, j3, fun i hi => ?_⟩
              have e30 : (upI (upI σ1 28 0 0 s b) 29 0 0 s (iI (z : Int))).2.1 30 0 0 = σ.2.1 30 0 0 := (q2 30 0 0 (by simp)).2.1
              rw [(q2 17 t 0 (by simp [e])).2.1, p5 _ (by omega), e30]
              exact j4 i hi
        · refine both_fo (k := 0) (by decide) h ?_ ?_
          · rw [eX]
            unfold j_X_sheet_37
            rw [if_pos (by rw [iI_le (by omega) (by omega)]; omega), if_neg (by rw [iI_le (by omega) (by omega)]; omega), x_found0, b2s]
            rfl
          · rw [eM]
            unfold j_M_sheet_35
            rw [if_pos (by rw [iI_le (by omega) (by omega)]; omega), if_neg (by rw [iI_le (by omega) (by omega)]; omega), m_no0, b2s]
            rfl
      · refine both_fo (k := 6) (by decide) h ?_ ?_
        · rw [eX]
          unfold j_X_sheet_37
          rw [if_neg (by rw [iI_le (by omega) (by omega)]; omega), x_found6, b2s]
          rfl
        · rw [eM]
          unfold j_M_sheet_35
          rw [if_neg (by rw [iI_le (by omega) (by omega)]; omega), m_no6, b2s]
          rfl
    · refine both_fo (k := 0) (by decide) h ?_ ?_
      · unfold f_X_sheet j_X_sheet_30
        rw [x_isSheet ha, b2s, if_pos hca, if_neg (by decide), if_neg (fun z => hb (Or.inl z)), if_neg (fun z => hb (Or.inr (Or.inl z))), if_neg (fun z => hb (Or.inr (Or.inr (Or.inl z)))), if_neg (fun z => hb (Or.inr (Or.inr (Or.inr z)))), x_found0, b2s]
        rfl
      · unfold f_M_sheet j_M_sheet_29
        rw [m_isSheet ha, b2s, if_pos hca, if_neg (by decide), if_neg (fun z => hb (Or.inl z)), if_neg (fun z => hb (Or.inr (Or.inl z))), if_neg (fun z => hb (Or.inr (Or.inr (Or.inl z)))), if_neg (fun z => hb (Or.inr (Or.inr (Or.inr z)))), m_no0, b2s]
        rfl
  · refine both_fo (k := 0) (by decide) h ?_ ?_
    · unfold f_X_sheet j_X_sheet_30
      rw [x_isSheet ha, b2s, if_neg hca, if_pos rfl, x_found0, b2s]
      rfl
    · unfold f_M_sheet j_M_sheet_29
      rw [m_isSheet ha, b2s, if_neg hca, if_pos rfl, m_no0, b2s]
      rfl
/-- carried away, and laid down -/
theorem m_carry (σ : Sg) {s p m : Nat} (hs : s < 4) (hp : p + m ≤ 40) (x3 x4 : Int32) : ∃ σ', lp (fun a => b_M_copy_115 (iI (s : Int)) (iI (p : Int)) x3 x4 (iI (m : Int)) a.1 a.2) FU (iI 0, σ) = some σ' ∧ (Ag (fun t _ _ => t = 31) σ σ' ∧ ∀ j, j < m → σ'.2.1 31 0 0 j = σ.2.1 30 0 0 (40 * s + (p + j))) := by
  refine lp_rel (fun d a => a.1 = iI (d : Int) ∧ Ag (fun t _ _ => t = 31) σ a.2 ∧ ∀ j, j < d → a.2.2.1 31 0 0 j = σ.2.1 30 0 0 (40 * s + (p + j))) (fun σ' : Sg => Ag (fun t _ _ => t = 31) σ σ' ∧ ∀ j, j < m → σ'.2.1 31 0 0 j = σ.2.1 30 0 0 (40 * s + (p + j))) m FU (iI 0, σ) ⟨rfl, Ag.rf, fun j hj => absurd hj (Nat.not_lt_zero j)⟩ ?_ ?_ (Nat.lt_of_le_of_lt (show m ≤ 40 by omega) (by decide))
  · intro d a hd hI
    obtain ⟨a1, a2⟩ := a
    obtain ⟨rfl, i2, i3⟩ := hI
    have i2 : Ag (fun t _ _ => t = 31) σ a2 := i2
    refine ⟨(iI ((d + 1 : Nat) : Int), upL a2 31 0 0 d (a2.2.1 30 0 0 (40 * s + (p + d)))), ?_, rfl, i2.tr (Ag.upL rfl), fun j hj => ?_⟩
    · show b_M_copy_115 (iI (s : Int)) (iI (p : Int)) x3 x4 (iI (m : Int)) (iI (d : Int)) a2 = _
      unfold b_M_copy_115 f_M_told
      rw [if_neg (by rw [iI_le (by omega) (by omega)]; omega), iI_add, iI_mul, iI_add, iI_add, show 40 * (s : Int) + ((p : Int) + (d : Int)) = ((40 * s + (p + d) : Nat) : Int) by omega, rd_N (by omega) (by decide), obs, b2s, rd_N (by omega) (by decide), obs]
      rfl
    · show (upL a2 31 0 0 d (a2.2.1 30 0 0 (40 * s + (p + d)))).2.1 31 0 0 j = _
      rw [upL_1]
      by_cases e : j = d
      · rw [if_pos ⟨rfl, rfl, rfl, e⟩, e, (i2 30 0 0 (by simp)).2.1]
      · rw [if_neg (fun z => e z.2.2.2)]
        exact i3 j (by omega)
  · intro a hI
    obtain ⟨a1, a2⟩ := a
    obtain ⟨rfl, i2, i3⟩ := hI
    refine ⟨a2, ?_, i2, i3⟩
    show b_M_copy_115 (iI (s : Int)) (iI (p : Int)) x3 x4 (iI (m : Int)) (iI (m : Int)) a2 = _
    unfold b_M_copy_115
    rw [if_pos (by rw [iI_le (by omega) (by omega)]; omega)]
theorem m_lay (σ : Sg) {s p m : Nat} (hs : s < 4) (hp : p + m ≤ 40) : ∃ σ', lp (fun a => b_M_copy_147 (iI (s : Int)) (iI (p : Int)) (iI (m : Int)) a.1 a.2) FU (iI 0, σ) = some σ' ∧ (Ag (fun t _ _ => t = 30) σ σ' ∧ (∀ j, j < m → σ'.2.1 30 0 0 (40 * s + p + j) = σ.2.1 31 0 0 j) ∧ ∀ q, ¬ (40 * s + p ≤ q ∧ q < 40 * s + p + m) → σ'.2.1 30 0 0 q = σ.2.1 30 0 0 q) := by
  refine lp_rel (fun d a => a.1 = iI (d : Int) ∧ Ag (fun t _ _ => t = 30) σ a.2 ∧ (∀ j, j < d → a.2.2.1 30 0 0 (40 * s + p + j) = σ.2.1 31 0 0 j) ∧ ∀ q, ¬ (40 * s + p ≤ q ∧ q < 40 * s + p + m) → a.2.2.1 30 0 0 q = σ.2.1 30 0 0 q) (fun σ' : Sg => Ag (fun t _ _ => t = 30) σ σ' ∧ (∀ j, j < m → σ'.2.1 30 0 0 (40 * s + p + j) = σ.2.1 31 0 0 j) ∧ ∀ q, ¬ (40 * s + p ≤ q ∧ q < 40 * s + p + m) → σ'.2.1 30 0 0 q = σ.2.1 30 0 0 q) m FU (iI 0, σ) ⟨rfl, Ag.rf, fun j hj => absurd hj (Nat.not_lt_zero j), fun _ _ => rfl⟩ ?_ ?_ (Nat.lt_of_le_of_lt (show m ≤ 40 by omega) (by decide))
  · intro d a hd hI
    obtain ⟨a1, a2⟩ := a
    obtain ⟨rfl, i2, i3, i4⟩ := hI
    have i2 : Ag (fun t _ _ => t = 30) σ a2 := i2
    refine ⟨(iI ((d + 1 : Nat) : Int), upL a2 30 0 0 (40 * s + p + d) (a2.2.1 31 0 0 d)), ?_, rfl, i2.tr (Ag.upL rfl), fun j hj => ?_, fun q hq => ?_⟩
    · show b_M_copy_147 (iI (s : Int)) (iI (p : Int)) (iI (m : Int)) (iI (d : Int)) a2 = _
      unfold b_M_copy_147
      rw [if_neg (by rw [iI_le (by omega) (by omega)]; omega), rd_N (by omega) (by decide), obs, iI_mul, iI_add, iI_add, iI_add, show 40 * (s : Int) + (p : Int) + (d : Int) = ((40 * s + p + d : Nat) : Int) by omega, rd_N (by omega) (by decide), obs]
      rfl
    · show (upL a2 30 0 0 (40 * s + p + d) (a2.2.1 31 0 0 d)).2.1 30 0 0 (40 * s + p + j) = _
      rw [upL_1]
      by_cases e : j = d
      · rw [if_pos ⟨rfl, rfl, rfl, by omega⟩, e, (i2 31 0 0 (by simp)).2.1]
      · rw [if_neg (fun z => absurd z.2.2.2 (by omega))]
        exact i3 j (by omega)
    · show (upL a2 30 0 0 (40 * s + p + d) (a2.2.1 31 0 0 d)).2.1 30 0 0 q = _
      rw [upL_1, if_neg (fun z => absurd z.2.2.2 (by omega))]
      exact i4 q hq
  · intro a hI
    obtain ⟨a1, a2⟩ := a
    obtain ⟨rfl, i2, i3, i4⟩ := hI
    refine ⟨a2, ?_, i2, i3, i4⟩
    show b_M_copy_147 (iI (s : Int)) (iI (p : Int)) (iI (m : Int)) (iI (m : Int)) a2 = _
    unfold b_M_copy_147
    rw [if_pos (by rw [iI_le (by omega) (by omega)]; omega)]
theorem x_hasRow {σ : Sg} {s z : Nat} (hz : σ.1 3 s 0 1 = iI (z : Int)) (hz4 : z ≤ 40) {p m : Int} (hp : -2147483648 ≤ p ∧ p < 2147483648) (hm : -2147483648 ≤ m ∧ m < 2147483648) : f_Sheet_hasRow s (iI p) (iI m) σ = some (if 0 ≤ p ∧ 0 ≤ m ∧ p + m ≤ z then iI 1 else iI 0, σ) := by
  unfold f_Sheet_hasRow
  rw [hz]
  by_cases e1 : p < 0
  · rw [if_pos (by rw [iI_lt (by omega) (by omega)]; exact e1), if_neg (by omega)]
  · rw [if_neg (by rw [iI_lt (by omega) (by omega)]; exact e1)]
    by_cases e2 : m < 0
    · rw [if_pos (by rw [iI_lt (by omega) (by omega)]; exact e2), if_neg (by omega)]
    · rw [if_neg (by rw [iI_lt (by omega) (by omega)]; exact e2)]
      by_cases e3 : (z : Int) < p
      · rw [if_pos (by rw [iI_lt (by omega) (by omega)]; exact e3), if_neg (by omega)]
      · rw [if_neg (by rw [iI_lt (by omega) (by omega)]; exact e3), iI_sub]
        by_cases e4 : (z : Int) - p < m
        · rw [if_pos (by rw [iI_lt (by omega) (by omega)]; exact e4), if_neg (by omega)]
        · rw [if_neg (by rw [iI_lt (by omega) (by omega)]; exact e4), if_pos (by omega)]
theorem both_copy (n : Nat) (a b c d e : Int32) : Both n (f_X_copy a b c d e) (f_M_copy a b c d e) := by
  intro σ h
  obtain ⟨za, rfl, ha⟩ := toI a
  obtain ⟨zb, rfl, hb⟩ := toI b
  obtain ⟨zc, rfl, hc⟩ := toI c
  obtain ⟨zd, rfl, hd⟩ := toI d
  obtain ⟨ze, rfl, he⟩ := toI e
  obtain ⟨v, kp, len, bs, h1, h2, h3, h4, h5⟩ := id h
  have f28 : ∀ k : Nat, (foS σ k).1 28 = σ.1 28 := fun k => by funext i j q; simp [foS, upI_1]
  have f29 : ∀ k : Nat, (foS σ k).1 29 = σ.1 29 := fun k => by funext i j q; simp [foS, upI_1]
  by_cases hca : 0 ≤ za ∧ za ≤ 3
  · by_cases hcc : 0 ≤ zc ∧ zc ≤ 3
    · obtain ⟨s, hs⟩ : ∃ s : Nat, za = (s : Int) := ⟨za.toNat, by omega⟩
      subst hs
      obtain ⟨t, ht⟩ : ∃ t : Nat, zc = (t : Int) := ⟨zc.toNat, by omega⟩
      subst ht
      have hs4 : s < 4 := by omega
      have ht4 : t < 4 := by omega
      obtain ⟨k1, k2, ⟨z, z1, z2, z3⟩, k4⟩ := h5 s hs4
      obtain ⟨l1, l2, ⟨y, y1, y2, y3⟩, l4⟩ := h5 t ht4
      have eX : f_X_copy (iI (s : Int)) (iI zb) (iI (t : Int)) (iI zd) (iI ze) σ = if σ.1 28 0 0 s = iI 0 ∨ σ.1 28 0 0 t = iI 0 then some (iI (-1000000006), foS σ 5) else if σ.1 28 0 0 s = σ.1 28 0 0 t then (if (0 ≤ zb ∧ 0 ≤ ze ∧ zb + ze ≤ z) ∧ (0 ≤ zd ∧ 0 ≤ ze ∧ zd + ze ≤ y) then Option.bind (cpOk (iI zb) (iI zd) (iI ze) 40 40) (fun q => some (iI ze, roL σ 17 t 0 (va_cpy (σ.2.1 17 s 0) (σ.2.1 17 t 0) q.1 q.2.1 q.2.2))) else some (iI (-1000000001), foS σ 0)) else some (iI (-1000000003), foS σ 2) := by
        unfold f_X_copy f_Sheet_isMissing j_X_copy_55 j_X_copy_106
        rw [x_isSheet ha, b2s, if_pos hca, if_neg (by decide), x_isSheet hc, b2s, if_pos hcc, if_neg (by decide), rd_N hs4 (by decide), obs, rd_N ht4 (by decide), obs, k1]
        by_cases m1 : σ.1 28 0 0 s = iI 0
        · rw [if_pos m1, b2s, if_neg (by decide), x_found5, b2s, if_pos (Or.inl m1)]
        · rw [if_neg m1, b2s, if_pos rfl, l1]
          by_cases m2 : σ.1 28 0 0 t = iI 0
          · rw [if_pos m2, b2s, if_neg (by decide), x_found5, b2s, if_pos (Or.inr m2)]
          · rw [if_neg m2, b2s, if_pos rfl, if_neg (show ¬ (σ.1 28 0 0 s = iI 0 ∨ σ.1 28 0 0 t = iI 0) from fun z => z.elim m1 m2)]
            by_cases m3 : σ.1 28 0 0 s = σ.1 28 0 0 t
            · rw [if_pos (show σ.1 3 s 0 0 = σ.1 3 t 0 0 by rw [k1, l1]; exact m3), if_pos m3, x_hasRow z2 z1 hb he, b2s]
              by_cases m4 : 0 ≤ zb ∧ 0 ≤ ze ∧ zb + ze ≤ z
              · rw [if_pos m4, if_neg (by decide), x_hasRow y2 y1 hd he, b2s]
                by_cases m5 : 0 ≤ zd ∧ 0 ≤ ze ∧ zd + ze ≤ y
                · rw [if_pos m5, if_neg (by decide), if_pos ⟨m4, m5⟩]
                · rw [if_neg m5, if_pos rfl, x_found0, b2s, if_neg (fun z => m5 z.2)]
              · rw [if_neg m4, if_pos rfl, x_found0, b2s, if_neg (fun z => m4 z.1)]
            · rw [if_neg (show ¬ σ.1 3 s 0 0 = σ.1 3 t 0 0 by rw [k1, l1]; exact m3), if_neg m3, x_found2, b2s]
      by_cases hm : σ.1 28 0 0 s = iI 0 ∨ σ.1 28 0 0 t = iI 0
      · refine both_fo (k := 5) (by decide) h (by rw [eX, if_pos hm]; rfl) ?_
        unfold f_M_copy j_M_copy_38
        rw [m_isSheet ha, b2s, if_pos hca, if_neg (by decide), m_isSheet hc, b2s, if_pos hcc, if_neg (by decide), rd_N hs4 (by decide), obs, f28]
        by_cases m1 : σ.1 28 0 0 s = iI 0
        · rw [if_pos m1, m_no5, b2s]
          rfl
        · rw [if_neg m1, rd_N ht4 (by decide), obs, if_pos (hm.resolve_left m1), m_no5, b2s]
          rfl
      · rw [if_neg hm] at eX
        have hm1 : ¬ σ.1 28 0 0 s = iI 0 := fun z => hm (Or.inl z)
        have hm2 : ¬ σ.1 28 0 0 t = iI 0 := fun z => hm (Or.inr z)
        by_cases m3 : σ.1 28 0 0 s = σ.1 28 0 0 t
        · rw [if_pos m3] at eX
          by_cases m4 : (0 ≤ zb ∧ 0 ≤ ze ∧ zb + ze ≤ z) ∧ (0 ≤ zd ∧ 0 ≤ ze ∧ zd + ze ≤ y)
          · obtain ⟨p, hp⟩ : ∃ p : Nat, zb = (p : Int) := ⟨zb.toNat, by omega⟩
            subst hp
            obtain ⟨q, hq⟩ : ∃ q : Nat, zd = (q : Int) := ⟨zd.toNat, by omega⟩
            subst hq
            obtain ⟨m, hmm⟩ : ∃ m : Nat, ze = (m : Int) := ⟨ze.toNat, by omega⟩
            subst hmm
            have hcp : cpOk (iI (p : Int)) (iI (q : Int)) (iI (m : Int)) 40 40 = some (p, q, m) := by
              unfold cpOk
              rw [iI_clamp (by omega) (by omega), iI_clamp (by omega) (by omega), iI_clamp (by omega) (by omega), show (0 : Int32) = iI 0 from rfl]
              simp (disch := omega) only [iI_lt]
              rw [if_neg (by omega)]
              simp
            rw [if_pos m4, hcp, obs] at eX
            have hA1 : Ag (fun t' i j => t' = 17 ∧ i = t ∧ j = 0) σ (roL σ 17 t 0 (va_cpy (σ.2.1 17 s 0) (σ.2.1 17 t 0) p q m)) := by
              intro t' i' j' hq
              refine ⟨rfl, ?_, rfl⟩
              funext k'
              exact if_neg hq
            obtain ⟨σ2, r1, r2, r3⟩ := m_carry (roL σ 17 t 0 (va_cpy (σ.2.1 17 s 0) (σ.2.1 17 t 0) p q m)) hs4 (p := p) (m := m) (by omega) (iI (t : Int)) (iI (q : Int))
            obtain ⟨σ3, u1, u2, u3, u4⟩ := m_lay σ2 ht4 (p := q) (m := m) (by omega)
            have hA : Ag (fun t' i j => (t' = 17 ∧ i = t ∧ j = 0) ∨ t' = 31 ∨ t' = 30) σ σ3 := ((hA1.mono (fun _ _ _ z => Or.inl z)).tr (r2.mono (fun _ _ _ z => Or.inr (Or.inl z)))).tr (u2.mono (fun _ _ _ z => Or.inr (Or.inr z)))
            refine ⟨iI (m : Int), _, σ3, eX, ?_, v, kp, len, bs, (h1.mono (by omega)).ag hA (by simp) (by simp) (by simp) (by simp), (h2.mono (by omega)).ag hA (by simp) (by simp) (by simp) (by simp) (by simp) (by simp), h3.ag hA (by simp) (by simp), h4.ag hA (by simp) (by simp) (by simp) (by simp), ?_⟩
            · have g28 : (roL σ 17 t 0 (va_cpy (σ.2.1 17 s 0) (σ.2.1 17 t 0) p q m)).1 = σ.1 := rfl
              unfold f_M_copy
              rw [m_isSheet ha, b2s, if_pos hca, if_neg (by decide), m_isSheet hc, b2s, if_pos hcc, if_neg (by decide), rd_N hs4 (by decide), obs, g28, if_neg hm1, rd_N ht4 (by decide), obs, if_neg hm2, obs, obs, if_pos m3, if_neg (by rw [iI_lt (by omega) (by omega)]; omega), if_neg (by rw [iI_lt (by omega) (by omega)]; omega), if_neg (by rw [iI_lt (by omega) (by omega)]; omega), obs, z3, iI_sub, if_neg (by rw [iI_lt (by omega) (by omega)]; omega), obs, y3, iI_sub, if_pos (by rw [iI_le (by omega) (by omega)]; omega), r1, obs, u1, obs]
            · intro w hw
              obtain ⟨j1, j2, j3, j4⟩ := h5 w hw
              rw [(hA 3 w 0 (by simp)).1, (hA 28 0 0 (by simp)).1, (hA 29 0 0 (by simp)).1]
              refine ⟨j1, j2, j3, fun i hi => ?_⟩
              have g30 : (roL σ 17 t 0 (va_cpy (σ.2.1 17 s 0) (σ.2.1 17 t 0) p q m)).2.1 30 0 0 = σ.2.1 30 0 0 := (hA1 30 0 0 (by simp)).2.1
              have e17 : σ3.2.1 17 w 0 = (roL σ 17 t 0 (va_cpy (σ.2.1 17 s 0) (σ.2.1 17 t 0) p q m)).2.1 17 w 0 := by rw [(u2 17 w 0 (by simp)).2.1, (r2 17 w 0 (by simp)).2.1]
              have e30 : σ2.2.1 30 0 0 = σ.2.1 30 0 0 := by rw [(r2 30 0 0 (by simp)).2.1, g30]
              rw [e17]
              by_cases ew : w = t
              · subst ew
                rw [roL_row]
                unfold va_cpy
                by_cases ei : q ≤ i ∧ i < q + m
                · rw [if_pos ei, show 40 * w + i = 40 * w + q + (i - q) by omega, u3 _ (by omega), r3 _ (by omega), g30]
                  exact k4 _ (by omega)
                · rw [if_neg ei, u4 _ (by omega), e30]
                  exact j4 i hi
              · rw [(hA1 17 w 0 (by simp [ew])).2.1, u4 _ (by omega), e30]
                exact j4 i hi
          · rw [if_neg m4] at eX
            refine both_fo (k := 0) (by decide) h (by rw [eX]; rfl) ?_
            unfold f_M_copy j_M_copy_106
            rw [m_isSheet ha, b2s, if_pos hca, if_neg (by decide), m_isSheet hc, b2s, if_pos hcc, if_neg (by decide), rd_N hs4 (by decide), obs, f28, if_neg hm1, rd_N ht4 (by decide), obs, if_neg hm2, obs, obs, if_pos m3, obs, obs, f29, z3, y3, m_no0, b2s, iI_sub, iI_sub]
            by_cases n1 : ze < 0
            · rw [if_pos (by rw [iI_lt (by omega) (by omega)]; exact n1)]
              rfl
            · rw [if_neg (by rw [iI_lt (by omega) (by omega)]; exact n1)]
              simp (disch := omega) only [iI_lt, iI_le]
              repeat' split
              all_goals first | rfl | (exfalso; omega)
        · rw [if_neg m3] at eX
          refine both_fo (k := 2) (by decide) h (by rw [eX]; rfl) ?_
          unfold f_M_copy
          rw [m_isSheet ha, b2s, if_pos hca, if_neg (by decide), m_isSheet hc, b2s, if_pos hcc, if_neg (by decide), rd_N hs4 (by decide), obs, f28, if_neg hm1, rd_N ht4 (by decide), obs, if_neg hm2, obs, obs, if_neg m3, m_no2, b2s]
          rfl
    · refine both_fo (k := 0) (by decide) h ?_ ?_
      · unfold f_X_copy j_X_copy_16
        rw [x_isSheet ha, b2s, if_pos hca, if_neg (by decide), x_isSheet hc, b2s, if_neg hcc, if_pos rfl, x_found0, b2s]
        rfl
      · unfold f_M_copy j_M_copy_14
        rw [m_isSheet ha, b2s, if_pos hca, if_neg (by decide), m_isSheet hc, b2s, if_neg hcc, if_pos rfl, m_no0, b2s]
        rfl
  · refine both_fo (k := 0) (by decide) h ?_ ?_
    · unfold f_X_copy j_X_copy_16
      rw [x_isSheet ha, b2s, if_neg hca, if_pos rfl, x_found0, b2s]
      rfl
    · unfold f_M_copy j_M_copy_14
      rw [m_isSheet ha, b2s, if_neg hca, if_pos rfl, m_no0, b2s]
      rfl
