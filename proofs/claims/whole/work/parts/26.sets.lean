/-! PURE: sets by bits -/
def accN (p : Nat → Bool) : Nat → Nat
  | 0 => 0
  | k + 1 => accN p k + (if p k = true then 2 ^ k else 0)
theorem accN_succ (p : Nat → Bool) (k : Nat) : accN p (k + 1) = accN p k + (if p k = true then 2 ^ k else 0) := rfl
theorem accN_lt (p : Nat → Bool) : ∀ k, accN p k < 2 ^ k := by
  intro k
  induction k with
  | zero => exact Nat.zero_lt_one
  | succ k ih =>
    rw [accN_succ, Nat.pow_succ]
    split <;> omega
theorem orS : ∀ k, k < 8 → ∀ m, m < 2 ^ k → iI ((m : Nat) : Int) ||| (iI 1 <<< (iI ((k : Nat) : Int) &&& 31)) = iI ((m + 2 ^ k : Nat) : Int) := by decide +kernel
theorem or0 (x : Int32) : x ||| iI 0 = x := by
  show x ||| (0 : Int32) = x
  exact Int32.or_zero
def outB (s : Ro) (k : Nat) : Bool := decide (0 ≤ rug s k 5)
def outS (s : Ro) : Nat := accN (outB s) (mny s)
theorem m_out {s : Ro} (h : GS s) (σ : Sg) : f_M_rolledOut (sS σ s) = some (iI (outS s : Nat), sS σ s) := by
  have hm := mny_le h
  have he := mny_eq h
  have hl : lp (fun a => b_M_rolledOut_4 a.1 a.2.1 a.2.2) FU (iI 0, iI 0, sS σ s) = some (iI (outS s : Nat), sS σ s) := by
    refine lp_run (fun i => (iI (accN (outB s) i : Nat), iI (i : Int), sS σ s)) (iI (outS s : Nat), sS σ s) (mny s) FU ?_ ?_ (Nat.lt_of_le_of_lt hm (by decide))
    · intro k hk
      obtain ⟨h0, h1, h2, h3, h4, h5, h6⟩ := h.rg hk
      show b_M_rolledOut_4 (iI (accN (outB s) k : Nat)) (iI (k : Int)) (sS σ s) = some (.inl (iI (accN (outB s) (k + 1) : Nat), iI ((k + 1 : Nat) : Int), sS σ s))
      unfold b_M_rolledOut_4
      rw [rd_2, obs, sS_at (by decide), if_neg (by rw [iI_le (by omega) (by omega)]; omega), m_get5 (by omega), b2s, orS k (by omega) _ (accN_lt _ k), or0, iI_add, accN_succ]
      simp (disch := omega) only [iI_lt]
      by_cases hq : rug s k 5 < 0
      · rw [if_pos hq, if_neg (by unfold outB; simp; omega)]
        rfl
      · rw [if_neg hq, if_pos (by unfold outB; simp; omega)]
        rfl
    · show b_M_rolledOut_4 (iI (accN (outB s) (mny s) : Nat)) (iI (mny s : Int)) (sS σ s) = some (.inr (iI (outS s : Nat), sS σ s))
      unfold b_M_rolledOut_4
      rw [rd_2, obs, sS_at (by decide), if_pos (by rw [iI_le (by omega) (by omega)]; omega)]
      rfl
  unfold f_M_rolledOut
  rw [hl, obs]
theorem x_out {σ : Sg} {w : Nat} {v : Ro} (h : XW σ w v) (hg : GS v) : f_World_setOut w σ = some (iI (outS v : Nat), σ) := by
  have hm := mny_le hg
  have he := mny_eq hg
  have hl : lp (fun a => b_World_setOut_4 w a.1 a.2.1 a.2.2) FU (iI 0, iI 0, σ) = some (iI (outS v : Nat), σ) := by
    refine lp_run (fun i => (iI (accN (outB v) i : Nat), iI (i : Int), σ)) (iI (outS v : Nat), σ) (mny v) FU ?_ ?_ (Nat.lt_of_le_of_lt hm (by decide))
    · intro k hk
      show b_World_setOut_4 w (iI (accN (outB v) k : Nat)) (iI (k : Int)) σ = some (.inl (iI (accN (outB v) (k + 1) : Nat), iI ((k + 1 : Nat) : Int), σ))
      unfold b_World_setOut_4
      rw [h.1.1, if_neg (by rw [iI_le (by omega) (by omega)]; omega), rd_N (by omega) (by decide), obs, x_isOut (h.2 k hk) (hg.rg hk), b2s, orS k (by omega) _ (accN_lt _ k), iI_add, accN_succ]
      by_cases hq : 0 ≤ rug v k 5
      · rw [if_pos hq, if_neg (by decide), if_pos (by unfold outB; simp; omega)]
        rfl
      · rw [if_neg hq, if_pos (by decide), if_neg (by unfold outB; simp; omega)]
        rfl
    · show b_World_setOut_4 w (iI (accN (outB v) (mny v) : Nat)) (iI (mny v : Int)) σ = some (.inr (iI (outS v : Nat), σ))
      unfold b_World_setOut_4
      rw [h.1.1, if_pos (by rw [iI_le (by omega) (by omega)]; omega)]
      rfl
  unfold f_World_setOut
  rw [hl, obs]
def lieB (s : Ro) (y : Int) (k : Nat) : Bool := decide (0 ≤ rug s k 5 ∧ rug s k 5 ≤ y ∧ y < rug s k 5 + reach (rug s k))
theorem x_setAt {σ : Sg} {w : Nat} {v : Ro} (h : XW σ w v) (hg : GS v) {y : Int} (hy : 0 ≤ y ∧ y ≤ 39) : f_World_setAt w (iI y) σ = some (iI (accN (lieB v y) (mny v) : Nat), σ) := by
  have hm := mny_le hg
  have he := mny_eq hg
  have hl : lp (fun a => b_World_setAt_4 w (iI y) a.1 a.2.1 a.2.2) FU (iI 0, iI 0, σ) = some (iI (accN (lieB v y) (mny v) : Nat), σ) := by
    refine lp_run (fun i => (iI (accN (lieB v y) i : Nat), iI (i : Int), σ)) (iI (accN (lieB v y) (mny v) : Nat), σ) (mny v) FU ?_ ?_ (Nat.lt_of_le_of_lt hm (by decide))
    · intro k hk
      show b_World_setAt_4 w (iI y) (iI (accN (lieB v y) k : Nat)) (iI (k : Int)) σ = some (.inl (iI (accN (lieB v y) (k + 1) : Nat), iI ((k + 1 : Nat) : Int), σ))
      unfold b_World_setAt_4
      rw [h.1.1, if_neg (by rw [iI_le (by omega) (by omega)]; omega), rd_N (by omega) (by decide), obs, x_covers (h.2 k hk) (hg.rg hk) hy, b2s, orS k (by omega) _ (accN_lt _ k), iI_add, accN_succ]
      by_cases hq : 0 ≤ rug v k 5 ∧ rug v k 5 ≤ y ∧ y < rug v k 5 + reach (rug v k)
      · rw [if_pos hq, if_neg (by decide), if_pos (by unfold lieB; exact decide_eq_true hq)]
        rfl
      · rw [if_neg hq, if_pos (by decide), if_neg (by unfold lieB; exact fun z => hq (of_decide_eq_true z))]
        rfl
    · show b_World_setAt_4 w (iI y) (iI (accN (lieB v y) (mny v) : Nat)) (iI (mny v : Int)) σ = some (.inr (iI (accN (lieB v y) (mny v) : Nat), σ))
      unfold b_World_setAt_4
      rw [h.1.1, if_pos (by rw [iI_le (by omega) (by omega)]; omega)]
  unfold f_World_setAt
  rw [hl, obs]
theorem m_setAt {s : Ro} (h : GS s) (σ : Sg) {y : Int} (hy : 0 ≤ y ∧ y ≤ 39) (q : Int32) : lp (fun a => b_M_yard_27 (iI y) q a.1 a.2.1 a.2.2) FU (iI 0, iI 0, sS σ s) = some (iI (accN (lieB s y) (mny s) : Nat), sS σ s) := by
  have hm := mny_le h
  have he := mny_eq h
  refine lp_run (fun i => (iI (accN (lieB s y) i : Nat), iI (i : Int), sS σ s)) (iI (accN (lieB s y) (mny s) : Nat), sS σ s) (mny s) FU ?_ ?_ (Nat.lt_of_le_of_lt hm (by decide))
  · intro k hk
    show b_M_yard_27 (iI y) q (iI (accN (lieB s y) k : Nat)) (iI (k : Int)) (sS σ s) = some (.inl (iI (accN (lieB s y) (k + 1) : Nat), iI ((k + 1 : Nat) : Int), sS σ s))
    have hli := m_lies (σ := σ) h hk (y := y) (by omega) (hd := Classical.propDecidable _)
    unfold b_M_yard_27
    rw [rd_2, obs, sS_at (by decide), if_neg (by rw [iI_le (by omega) (by omega)]; omega), hli, b2s, orS k (by omega) _ (accN_lt _ k), or0, iI_add, accN_succ]
    by_cases hq : lies (rug s k) y
    · rw [if_pos hq, if_neg (by decide), if_pos (by unfold lieB; exact decide_eq_true hq)]
      rfl
    · rw [if_neg hq, if_pos (by decide), if_neg (by unfold lieB; exact fun z => hq (show 0 ≤ rug s k 5 ∧ rug s k 5 ≤ y ∧ y < rug s k 5 + reach (rug s k) from of_decide_eq_true z))]
      rfl
  · show b_M_yard_27 (iI y) q (iI (accN (lieB s y) (mny s) : Nat)) (iI (mny s : Int)) (sS σ s) = some (.inr (iI (accN (lieB s y) (mny s) : Nat), sS σ s))
    unfold b_M_yard_27
    rw [rd_2, obs, sS_at (by decide), if_pos (by rw [iI_le (by omega) (by omega)]; omega)]
/-! becoming another -/
theorem x_become {σ : Sg} {w c w' c' : Nat} {r : Ro} (h : XR σ w' c' r) (hg : GR r) (hw : w ≠ w') (hr0 : 0 ≤ r 5 ∨ True) : ∃ σ', f_Rug_become w c w' c' σ = some ((), σ') ∧ XR σ' w c r ∧ Ag (P1 2 w c) σ σ' := by
  obtain ⟨x0, x1, x2, x3, x4, x5, x6⟩ := h
  have hw' : ¬ w' = w := fun e => hw e.symm
  unfold f_Rug_become
  rw [x0, kd_ok hg, obs]
  refine ⟨_, rfl, ⟨?_, ?_, ?_, ?_, ?_, ?_, fun z => ?_⟩, ?_⟩
  · simp [upI_2, upK_2]
  · simp [upI_1, upK_1, hw', x1]
  · simp [upI_1, upK_1, hw', x2]
  · simp [upI_1, upK_1, hw', x3]
  · simp [upI_1, upK_1, hw', x4]
  · simp [upI_1, upK_1, hw', x5]
  · simp [upI_1, upK_1, hw', x6 z]
  · have q : P1 2 w c 2 w c := ⟨rfl, rfl, rfl⟩
    exact ((((((Ag.upK q).tr (Ag.upI q)).tr (Ag.upI q)).tr (Ag.upI q)).tr (Ag.upI q)).tr (Ag.upI q)).tr (Ag.upI q)
theorem cp7 : cpOk (iI 0) (iI 0) (iI 7) 7 7 = some (0, 0, 7) := rfl
theorem x_worldBecome {σ : Sg} {w w' : Nat} {v : Ro} (h : XW σ w' v) (hg : GS v) (hw : w ≠ w') : ∃ σ', f_World_become w w' σ = some ((), σ') ∧ XW σ' w v ∧ XW σ' w' v ∧ Ag (PW w) σ σ' := by
  have hm := mny_le hg
  have he := mny_eq hg
  have hw' : ¬ w' = w := fun e => hw e.symm
  have hl : ∃ σ', lp (fun a => b_World_become_2 w w' a.1 a.2) FU (iI 0, σ) = some σ' ∧ ((∀ c, c < mny v → XR σ' w c (rug v c)) ∧ XW σ' w' v ∧ Ag (PW w) σ σ') := by
    refine lp_rel (fun i a => a.1 = iI (i : Int) ∧ (∀ c, c < i → XR a.2 w c (rug v c)) ∧ XW a.2 w' v ∧ Ag (PW w) σ a.2) _ (mny v) FU (iI 0, σ) ⟨rfl, fun c hc => absurd hc (Nat.not_lt_zero c), h, Ag.rf⟩ ?_ ?_ (Nat.lt_of_le_of_lt hm (by decide))
    · intro k a hk hI
      obtain ⟨a1, a2⟩ := a
      obtain ⟨rfl, i2, i3, i4⟩ := hI
      have i3 : XW a2 w' v := i3
      have i4 : Ag (PW w) σ a2 := i4
      have i2 : ∀ c, c < k → XR a2 w c (rug v c) := i2
      obtain ⟨σ', q1, q2, q3⟩ := x_become (c := k) (i3.2 k hk) (hg.rg hk) hw (Or.inr trivial)
      refine ⟨(iI ((k + 1 : Nat) : Int), σ'), ?_, rfl, ?_, ?_, ?_⟩
      · show b_World_become_2 w w' (iI (k : Int)) a2 = _
        unfold b_World_become_2
        rw [i3.1.1, if_neg (by rw [iI_le (by omega) (by omega)]; omega), rd_N (by omega) (by decide), obs, obs, q1, b2s, iI_add]
        rfl
      · intro c hc
        by_cases e : c = k
        · subst e; exact q2
        · exact (i2 c (by omega)).ag q3 (fun z => e z.2.2)
      · exact i3.ag q3 (fun z => absurd z.1 (by decide)) (fun z => absurd z.1 (by decide)) (fun c z => hw' z.2.1)
      · exact i4.tr (q3.mono (fun t i j z => ⟨by rw [z.1]; decide, z.2.1⟩))
    · intro a hI
      obtain ⟨a1, a2⟩ := a
      obtain ⟨rfl, i2, i3, i4⟩ := hI
      refine ⟨a2, ?_, i2, i3, i4⟩
      show b_World_become_2 w w' (iI (mny v : Int)) a2 = _
      unfold b_World_become_2
      rw [show a2.1 1 w' 0 0 = iI (v 2) from i3.1.1, if_pos (by rw [iI_le (by omega) (by omega)]; omega)]
  obtain ⟨σ1, h1, h2, h3, h4⟩ := hl
  unfold f_World_become
  rw [h1, obs, cp7, obs]
  have q1 : PW w 1 w 0 := ⟨Or.inl rfl, rfl⟩
  have q12 : PW w 12 w 0 := ⟨Or.inr (Or.inr (Or.inl rfl)), rfl⟩
  have hA : ∀ (f : Nat → Int32) (a b c : Int32), Ag (PW w) σ1 (upI (upI (upI (roI σ1 12 w 0 f) 1 w 0 0 a) 1 w 0 1 b) 1 w 0 2 c) := fun f a b c => (((Ag.roI q12).tr (Ag.upI q1)).tr (Ag.upI q1)).tr (Ag.upI q1)
  have hB : ∀ (f : Nat → Int32) (a b c : Int32), Ag (fun t i j => (t = 1 ∨ t = 12) ∧ i = w) σ1 (upI (upI (upI (roI σ1 12 w 0 f) 1 w 0 0 a) 1 w 0 1 b) 1 w 0 2 c) := fun f a b c => (((Ag.roI ⟨Or.inr rfl, rfl⟩).tr (Ag.upI ⟨Or.inl rfl, rfl⟩)).tr (Ag.upI ⟨Or.inl rfl, rfl⟩)).tr (Ag.upI ⟨Or.inl rfl, rfl⟩)
  refine ⟨_, rfl, ⟨⟨?_, ?_, ?_, ?_⟩, fun c hc => (h2 c hc).ag (hB _ _ _ _) (fun z => absurd z.1 (by decide))⟩, h3.ag (hB _ _ _ _) (fun z => hw' z.2) (fun z => hw' z.2) (fun c z => hw' z.2), h4.tr (hA _ _ _ _)⟩
  · simp [upI_1, roI, hw', h3.1.1]
  · simp [upI_1, roI, hw', h3.1.2.1]
  · simp [upI_1, roI, hw', h3.1.2.2.1]
  · intro i hi
    simp [upI_1, roI, va_cpy, hi, h3.1.2.2.2 i hi]
