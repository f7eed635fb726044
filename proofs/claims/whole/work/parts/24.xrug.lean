/-! PURE: the class, carpets -/
/-- nothing has changed but at the addresses P -/
def Ag (P : Nat → Nat → Nat → Prop) (σ σ' : Sg) : Prop := ∀ t i j, ¬ P t i j → σ'.1 t i j = σ.1 t i j ∧ σ'.2.1 t i j = σ.2.1 t i j ∧ σ'.2.2 t i j = σ.2.2 t i j
theorem Ag.rf {P : Nat → Nat → Nat → Prop} {σ : Sg} : Ag P σ σ := fun _ _ _ _ => ⟨rfl, rfl, rfl⟩
theorem Ag.tr {P : Nat → Nat → Nat → Prop} {a b c : Sg} (h : Ag P a b) (k : Ag P b c) : Ag P a c := fun t i j q => ⟨(k t i j q).1.trans (h t i j q).1, (k t i j q).2.1.trans (h t i j q).2.1, (k t i j q).2.2.trans (h t i j q).2.2⟩
theorem Ag.mono {P Q : Nat → Nat → Nat → Prop} {a b : Sg} (h : Ag P a b) (hPQ : ∀ t i j, P t i j → Q t i j) : Ag Q a b := fun t i j q => h t i j (fun z => q (hPQ t i j z))
theorem Ag.upI {P : Nat → Nat → Nat → Prop} {σ : Sg} {t i j k : Nat} {v : Int32} (h : P t i j) : Ag P σ (upI σ t i j k v) := by
  intro t' i' j' q
  refine ⟨?_, rfl, rfl⟩
  funext k'
  exact if_neg (fun z => q (by rw [z.1, z.2.1, z.2.2.1]; exact h))
theorem Ag.upL {P : Nat → Nat → Nat → Prop} {σ : Sg} {t i j k : Nat} {v : Int64} (h : P t i j) : Ag P σ (upL σ t i j k v) := by
  intro t' i' j' q
  refine ⟨rfl, ?_, rfl⟩
  funext k'
  exact if_neg (fun z => q (by rw [z.1, z.2.1, z.2.2.1]; exact h))
theorem Ag.upK {P : Nat → Nat → Nat → Prop} {σ : Sg} {t i j : Nat} {v : Nat} (h : P t i j) : Ag P σ (upK σ t i j v) := by
  intro t' i' j' q
  exact ⟨rfl, rfl, if_neg (fun z => q (by rw [z.1, z.2.1, z.2.2]; exact h))⟩
theorem Ag.roI {P : Nat → Nat → Nat → Prop} {σ : Sg} {t i j : Nat} {f : Nat → Int32} (h : P t i j) : Ag P σ (roI σ t i j f) := by
  intro t' i' j' q
  refine ⟨?_, rfl, rfl⟩
  funext k'
  exact if_neg (fun z => q (by rw [z.1, z.2.1, z.2.2]; exact h))
def P1 (t0 i0 j0 : Nat) : Nat → Nat → Nat → Prop := fun t i j => t = t0 ∧ i = i0 ∧ j = j0
theorem upI_1 {σ : Sg} {t i j k t' i' j' k' : Nat} {v : Int32} : (upI σ t i j k v).1 t' i' j' k' = if t' = t ∧ i' = i ∧ j' = j ∧ k' = k then v else σ.1 t' i' j' k' := rfl
theorem upI_2 {σ : Sg} {t i j k : Nat} {v : Int32} : (upI σ t i j k v).2 = σ.2 := rfl
theorem upK_1 {σ : Sg} {t i j : Nat} {v : Nat} : (upK σ t i j v).1 = σ.1 := rfl
theorem upK_2 {σ : Sg} {t i j t' i' j' : Nat} {v : Nat} : (upK σ t i j v).2.2 t' i' j' = if t' = t ∧ i' = i ∧ j' = j then v else σ.2.2 t' i' j' := rfl
/-- a carpet of the class -/
def XR (σ : Sg) (w c : Nat) (r : Ro) : Prop := σ.2.2 2 w c = (r 0).toNat ∧ σ.1 2 w c 1 = iI (r 1) ∧ σ.1 2 w c 2 = iI (r 2) ∧ σ.1 2 w c 3 = iI (r 3) ∧ σ.1 2 w c 4 = iI (r 4) ∧ σ.1 2 w c 5 = iI (r 5) ∧ (0 ≤ r 5 → σ.1 2 w c 6 = iI (r 6))
theorem XR.ag {P : Nat → Nat → Nat → Prop} {σ σ' : Sg} {w c : Nat} {r : Ro} (h : XR σ w c r) (ha : Ag P σ σ') (hn : ¬ P 2 w c) : XR σ' w c r := by
  obtain ⟨e1, -, e3⟩ := ha 2 w c hn
  unfold XR
  rw [e1, e3]
  exact h
theorem XR.cong {σ : Sg} {w c : Nat} {r r' : Ro} (h : XR σ w c r) (e : ∀ f, f < 7 → r' f = r f) : XR σ w c r' := by
  unfold XR
  rw [e 0 (by decide), e 1 (by decide), e 2 (by decide), e 3 (by decide), e 4 (by decide), e 5 (by decide), e 6 (by decide)]
  exact h
section XRUG
variable {σ : Sg} {w c : Nat} {r : Ro}
theorem kd_ok (hg : GR r) : kd (r 0).toNat = some (r 0).toNat := by
  obtain ⟨h0, -⟩ := hg
  unfold kd
  exact if_pos (by omega)
theorem x_isOut (h : XR σ w c r) (hg : GR r) : f_Rug_isOut w c σ = some (if 0 ≤ r 5 then iI 1 else iI 0, σ) := by
  obtain ⟨x0, x1, x2, x3, x4, x5, x6⟩ := h
  obtain ⟨h0, h1, h2, h3, h4, h5, h6⟩ := hg
  unfold f_Rug_isOut
  simp (disch := omega) only [x5, iI_lt]
  split
  · rw [if_neg (by omega)]
  · rw [if_pos (by omega)]
theorem x_reaches (h : XR σ w c r) (hg : GR r) : v_reaches (r 0).toNat w c σ = some (iI (reach r), σ) := by
  obtain ⟨x0, x1, x2, x3, x4, x5, x6⟩ := h
  obtain ⟨h0, h1, h2, h3, h4, h5, h6⟩ := hg
  unfold v_reaches reach
  rcases (show r 0 = 0 ∨ r 0 = 1 ∨ r 0 = 2 ∨ r 0 = 3 ∨ r 0 = 4 ∨ r 0 = 5 by omega) with e | e | e | e | e | e <;> rw [e]
  · show some (σ.1 2 w c 2, σ) = some (iI (r 2), σ)
    rw [x2]
  · show some (iI 2 * σ.1 2 w c 2, σ) = some (iI (2 * r 2), σ)
    rw [x2, iI_mul]
  · show some (σ.1 2 w c 2, σ) = some (iI (r 2), σ)
    rw [x2]
  · rfl
  · show f_Stair_reaches 4 w c σ = some (iI (if r 2 < 2 then 1 else 2 * r 2 - 3), σ)
    unfold f_Stair_reaches f_Runner_reaches
    simp (disch := omega) only [x2, b2s, iI_mul, iI_sub, iI_lt]
    repeat' split
    all_goals first | rfl | (exfalso; omega) | (rw [show 2 * r 2 - 3 = 1 by omega])
  · show f_Shag_reaches 5 w c σ = some (iI (if 20 ≤ r 3 then r 2 else if r 2 < 2 then 1 else r 2 / 2), σ)
    unfold f_Shag_reaches f_Kind_reaches
    simp (disch := omega) only [x2, x3, b2s, iI_div, iI_le, iI_lt]
    repeat' split
    all_goals first | rfl | (exfalso; omega) | (rw [show r 2 / 2 = 1 by omega])
theorem x_wears (h : XR σ w c r) (hg : GR r) {q : Int} (hq : q = 0 ∨ q = 1) : v_wears (r 0).toNat w c (iI q) σ = some (iI (wears r q), σ) := by
  obtain ⟨x0, x1, x2, x3, x4, x5, x6⟩ := h
  obtain ⟨h0, h1, h2, h3, h4, h5, h6⟩ := hg
  unfold v_wears wears
  rcases (show r 0 = 0 ∨ r 0 = 1 ∨ r 0 = 2 ∨ r 0 = 3 ∨ r 0 = 4 ∨ r 0 = 5 by omega) with e | e | e | e | e | e <;> rw [e]
  · show some (iI 1 + iI 2 * iI q, σ) = some (iI (1 + 2 * q), σ)
    rw [iI_mul, iI_add]
  · show some ((iI 1 + iI 2 * iI q) + iI 1, σ) = some (iI (2 + 2 * q), σ)
    rw [iI_mul, iI_add, iI_add, show 1 + 2 * q + 1 = 2 + 2 * q by omega]
  · show some ((iI 1 + iI 2 * iI q) / iI 2, σ) = some (iI q, σ)
    rw [iI_mul, iI_add, iI_div (by omega) (by omega), show (1 + 2 * q) / 2 = q by omega]
  · rfl
  · show some (((iI 1 + iI 2 * iI q) + iI 1) + σ.1 2 w c 4, σ) = some (iI (2 + 2 * q + r 4), σ)
    rw [x4, iI_mul, iI_add, iI_add, iI_add, show 1 + 2 * q + 1 + r 4 = 2 + 2 * q + r 4 by omega]
  · show some ((iI 1 + iI 2 * iI q) / iI 2 + iI q, σ) = some (iI (2 * q), σ)
    rw [iI_mul, iI_add, iI_div (by omega) (by omega), iI_add, show (1 + 2 * q) / 2 + q = 2 * q by omega]
theorem x_breeds (hg : GR r) {q : Int} (hq : q = 0 ∨ q = 1) : v_breeds (r 0).toNat (iI q) σ = some (iI (breeds r q), σ) := by
  obtain ⟨h0, h1, h2, h3, h4, h5, h6⟩ := hg
  unfold v_breeds breeds
  rcases (show r 0 = 0 ∨ r 0 = 1 ∨ r 0 = 2 ∨ r 0 = 3 ∨ r 0 = 4 ∨ r 0 = 5 by omega) with e | e | e | e | e | e <;> rw [e]
  · rfl
  · rfl
  · rfl
  · rfl
  · rfl
  · rcases hq with e2 | e2 <;> rw [e2] <;> rfl
theorem x_gains (h : XR σ w c r) (hg : GR r) : v_gains (r 0).toNat w c σ = some (iI (beaten r), σ) := by
  obtain ⟨x0, x1, x2, x3, x4, x5, x6⟩ := h
  obtain ⟨h0, h1, h2, h3, h4, h5, h6⟩ := hg
  unfold v_gains beaten
  rcases (show r 0 = 0 ∨ r 0 = 1 ∨ r 0 = 2 ∨ r 0 = 3 ∨ r 0 = 4 ∨ r 0 = 5 by omega) with e | e | e | e | e | e <;> rw [e]
  · rfl
  · show some (iI 10 - σ.1 2 w c 4, σ) = some (iI (10 - r 4), σ)
    rw [x4, iI_sub]
  · show some (iI 10 - iI 4, σ) = some (iI 6, σ)
    rw [iI_sub]
    rfl
  · rfl
  · show some (iI 10 - σ.1 2 w c 4, σ) = some (iI (10 - r 4), σ)
    rw [x4, iI_sub]
  · show some (iI 2 * (iI 10 - iI 4), σ) = some (iI 12, σ)
    rw [iI_sub, iI_mul]
    rfl
/-- on how many yards it lies -/
def cover (r : Ro) : Int := if 0 ≤ r 5 then (if 40 - r 5 < reach r then 40 - r 5 else reach r) else 0
theorem cover_rg (hg : GR r) : 0 ≤ cover r ∧ cover r ≤ 40 ∧ (0 ≤ r 5 → 1 ≤ cover r ∧ r 5 + cover r ≤ 40) := by
  have hr := reach_rg hg
  obtain ⟨h0, h1, h2, h3, h4, h5, h6⟩ := hg
  unfold cover
  split
  · split <;> omega
  · omega
theorem x_cover (h : XR σ w c r) (hg : GR r) : f_Rug_yardsCovered w c σ = some (iI (cover r), σ) := by
  have hr := reach_rg hg
  have h5 : -1 ≤ r 5 ∧ r 5 ≤ 39 := hg.2.2.2.2.2.1
  unfold f_Rug_yardsCovered cover
  rw [x_isOut h hg, b2s]
  by_cases hq : 0 ≤ r 5
  · rw [if_pos hq, if_pos hq, if_neg (by decide), h.1, kd_ok hg, obs, x_reaches h hg, b2s, h.2.2.2.2.2.1, iI_sub]
    simp (disch := omega) only [iI_lt]
    split <;> rfl
  · rw [if_neg hq, if_neg hq, if_pos (by decide)]
theorem x_covers (h : XR σ w c r) (hg : GR r) {y : Int} (hy : 0 ≤ y ∧ y ≤ 39) : f_Rug_covers w c (iI y) σ = some (if 0 ≤ r 5 ∧ r 5 ≤ y ∧ y < r 5 + reach r then iI 1 else iI 0, σ) := by
  have hr := reach_rg hg
  have hc := cover_rg hg
  have h5 : -1 ≤ r 5 ∧ r 5 ≤ 39 := hg.2.2.2.2.2.1
  unfold f_Rug_covers
  rw [x_isOut h hg, b2s]
  by_cases hq : 0 ≤ r 5
  · rw [if_pos hq, if_neg (by decide), x_cover h hg]
    simp (disch := omega) only [h.2.2.2.2.2.1, b2s, iI_add, iI_lt, iI_le]
    unfold cover
    rw [if_pos hq]
    repeat' split
    all_goals first | rfl | (exfalso; omega)
  · rw [if_neg hq, if_pos (by decide), if_neg (by omega)]
theorem x_putAway (h : XR σ w c r) : ∃ σ', f_Rug_putAway w c σ = some ((), σ') ∧ XR σ' w c (up r 5 (-1)) ∧ Ag (P1 2 w c) σ σ' := by
  obtain ⟨x0, x1, x2, x3, x4, x5, x6⟩ := h
  refine ⟨_, rfl, ?_, (Ag.upI ⟨rfl, rfl, rfl⟩).tr (Ag.upI ⟨rfl, rfl, rfl⟩)⟩
  refine ⟨x0, ?_, ?_, ?_, ?_, ?_, fun z => absurd z (by rw [up_same]; decide)⟩ <;> simp [upI_1, up, x1, x2, x3, x4]
theorem x_passDay (h : XR σ w c r) (hg : GR r) {q : Int} (hq : q = 0 ∨ q = 1) : ∃ σ', f_Rug_passDay w c (iI q) σ = some ((), σ') ∧ XR σ' w c (ageR r q) ∧ Ag (P1 2 w c) σ σ' := by
  have hwe := wears_rg hg hq
  have hbr := breeds_rg hg hq
  have hX := h
  obtain ⟨x0, x1, x2, x3, x4, x5, x6⟩ := h
  obtain ⟨h0, h1, h2, h3, h4, h5, h6⟩ := id hg
  unfold f_Rug_passDay
  rw [x_isOut hX hg, b2s, x0, kd_ok hg, obs, obs, x_wears hX hg hq, x_breeds hg hq, b2s, b2s]
  unfold ageR
  by_cases hr : 0 ≤ r 5
  · rw [if_pos hr, if_neg (by decide), if_pos hr]
    have e3 : (if iI 0 < σ.1 2 w c 3 - iI (wears r q) then σ.1 2 w c 3 - iI (wears r q) else iI 0) = iI (if r 3 - wears r q < 0 then 0 else r 3 - wears r q) := by
      rw [x3, iI_sub]
      simp (disch := omega) only [iI_lt]
      split
      · rw [if_neg (by omega)]
      · by_cases h9 : r 3 - wears r q < 0
        · rw [if_pos h9]
        · rw [if_neg h9, show r 3 - wears r q = 0 by omega]
    rw [e3]
    generalize hp : (if r 3 - wears r q < 0 then 0 else r 3 - wears r q) = p
    have hpr : 0 ≤ p ∧ p ≤ 99 ∧ (p = 0 ↔ r 3 - wears r q ≤ 0) := by
      rw [← hp]
      split <;> omega
    have e4 : (upI σ 2 w c 3 (iI p)).1 2 w c 3 = iI p := by simp [upI_1]
    rw [e4]
    have hX1 : XR (upI σ 2 w c 3 (iI p)) w c (up r 3 p) := by
      refine ⟨x0, ?_, ?_, ?_, ?_, ?_, ?_⟩ <;> simp [upI_1, up, x1, x2, x4, x5]
      exact x6
    by_cases hp0 : p = 0
    · rw [if_pos (by rw [hp0]), if_pos (hpr.2.2.mp hp0)]
      obtain ⟨σ', q1, q2, q3⟩ := x_putAway hX1
      exact ⟨σ', by rw [q1, b2s], q2, (Ag.upI ⟨rfl, rfl, rfl⟩).tr q3⟩
    · rw [if_neg (by rw [iI_eq (by omega) (by omega)]; exact hp0), if_neg (fun z => hp0 (hpr.2.2.mpr z))]
      refine ⟨_, rfl, hX1.cong (fun f hf => ?_), Ag.upI ⟨rfl, rfl, rfl⟩⟩
      unfold up
      split
      · rename_i e; rw [e]; rfl
      · rfl
  · rw [if_neg hr, if_pos (by decide), if_neg hr]
    have e4 : (if σ.1 2 w c 4 + iI (breeds r q) < iI 9 then σ.1 2 w c 4 + iI (breeds r q) else iI 9) = iI (if r 4 + breeds r q < 9 then r 4 + breeds r q else 9) := by
      rw [x4, iI_add]
      simp (disch := omega) only [iI_lt]
      split <;> rfl
    rw [e4]
    generalize hp : (if r 4 + breeds r q < 9 then r 4 + breeds r q else 9) = m
    have hm : 0 ≤ m ∧ m ≤ 9 := by
      rw [← hp]
      split <;> omega
    have e5 : (upI σ 2 w c 4 (iI m)).1 2 w c 4 = iI m := by simp [upI_1]
    have e6 : (upI σ 2 w c 4 (iI m)).1 2 w c 3 = iI (r 3) := by simp [upI_1, x3]
    rw [e5, e6, iI_div (by omega) (by omega), iI_sub]
    have e7 : (if iI 0 < iI (r 3 - m / 3) then iI (r 3 - m / 3) else iI 0) = iI (if r 3 - m / 3 < 0 then 0 else r 3 - m / 3) := by
      simp (disch := omega) only [iI_lt]
      split
      · rw [if_neg (by omega)]
      · by_cases h9 : r 3 - m / 3 < 0
        · rw [if_pos h9]
        · rw [if_neg h9, show r 3 - m / 3 = 0 by omega]
    rw [e7]
    generalize (if r 3 - m / 3 < 0 then 0 else r 3 - m / 3) = p
    refine ⟨_, rfl, ⟨x0, ?_, ?_, ?_, ?_, ?_, fun z => absurd z hr⟩, (Ag.upI ⟨rfl, rfl, rfl⟩).tr (Ag.upI ⟨rfl, rfl, rfl⟩)⟩ <;> simp [upI_1, up, x1, x2, x5]
end XRUG
