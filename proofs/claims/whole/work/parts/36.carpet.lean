/-! PURE: a carpet more; status (side by side) -/
def newR (k m : Int) : Ro := fun f => if f = 0 then k else if f = 1 then m else if f = 2 then 8 else if f = 3 then 50 else if f = 5 then -1 else 0
def addC (v : Ro) (k m : Int) : Ro := up (setRug v (mny v) (newR k m)) 2 (v 2 + 1)
theorem setRug_cong {s : Ro} {k : Nat} {r r' : Ro} (e : ∀ f, f < 7 → r f = r' f) : setRug s k r = setRug s k r' := by
  funext j
  unfold setRug
  split
  · exact e _ (by omega)
  · rfl
theorem addC_hd {v : Ro} {k m : Int} {i : Nat} (hi : i < 10) (h2 : i ≠ 2) : addC v k m i = v i := by
  unfold addC
  rw [up_ne h2, setRug_hd hi]
theorem addC_2 {v : Ro} {k m : Int} : addC v k m 2 = v 2 + 1 := up_same
theorem addC_mny {v : Ro} (h : GS v) {k m : Int} : mny (addC v k m) = mny v + 1 := by
  have := mny_eq h
  unfold mny at this ⊢
  rw [addC_2]
  omega
theorem addC_ne {v : Ro} {k m : Int} {c f : Nat} (hc : c ≠ mny v) (hf : f < 7) : rug (addC v k m) c f = rug v c f := by
  show up (setRug v (mny v) (newR k m)) 2 (v 2 + 1) (10 + 7 * c + f) = _
  rw [up_ne (by omega)]
  exact setRug_ne hc hf
theorem addC_at {v : Ro} {k m : Int} {f : Nat} (hf : f < 7) : rug (addC v k m) (mny v) f = newR k m f := by
  show up (setRug v (mny v) (newR k m)) 2 (v 2 + 1) (10 + 7 * mny v + f) = _
  rw [up_ne (by omega)]
  exact setRug_at hf
theorem newR_ok {k m : Int} (hk : 0 ≤ k ∧ k ≤ 5) (hm : 0 ≤ m ∧ m ≤ 3) : GR (newR k m) := by
  unfold GR newR
  simp only [Nat.reduceEqDiff, if_true, if_false, reduceIte]
  omega
theorem gv_add {n : Nat} {v : Ro} (h : GV n v) (h8 : v 2 < 8) {k m : Int} (hk : 0 ≤ k ∧ k ≤ 5) (hm : 0 ≤ m ∧ m ≤ 3) : GV n (addC v k m) := by
  obtain ⟨g1, g2, g3, g4, g5⟩ := h
  have hmn := addC_mny g1 (k := k) (m := m)
  have he := mny_eq g1
  have key : ∀ c, c < mny v + 1 → 0 ≤ rug (addC v k m) c 5 → c < mny v ∧ 0 ≤ rug v c 5 ∧ rug (addC v k m) c 6 = rug v c 6 := by
    intro c hc ho
    by_cases e : c = mny v
    · subst e
      rw [addC_at (by decide)] at ho
      exact absurd (show (0 : Int) ≤ -1 from ho) (by decide)
    · rw [addC_ne e (by decide)] at ho
      exact ⟨by omega, ho, addC_ne e (by decide)⟩
  refine ⟨⟨?_, ?_, ?_, ?_, ?_⟩, by rw [addC_hd (by decide) (by decide)]; exact g2, ?_, by rw [addC_hd (by decide) (by decide)]; exact g4, ?_⟩
  · rw [addC_hd (by decide) (by decide)]; exact g1.1
  · rw [addC_hd (by decide) (by decide)]; exact g1.2.1
  · rw [addC_2]; omega
  · intro i hi
    rw [addC_hd (by omega) (by omega)]; exact g1.2.2.2.1 i hi
  · intro c hc
    rw [addC_2] at hc
    by_cases e : c = mny v
    · subst e
      exact GR.cong (fun f hf => addC_at hf) (newR_ok hk hm)
    · exact GR.cong (fun f hf => addC_ne e hf) (g1.rg (by omega))
  · intro a b ha hb oa ob e
    rw [hmn] at ha hb
    obtain ⟨a1, a2, a3⟩ := key a ha oa
    obtain ⟨b1, b2, b3⟩ := key b hb ob
    rw [a3, b3] at e
    exact g3 a b a1 b1 a2 b2 e
  · intro a ha oa
    rw [hmn] at ha
    obtain ⟨a1, a2, a3⟩ := key a ha oa
    rw [a3, addC_hd (by decide) (by decide)]
    exact g5 a a1 a2
theorem m_adds {v : Ro} (h : GS v) (h8 : v 2 < 8) (σ : Sg) (k m : Int) : f_M_addsCarpet (iI k) (iI m) (sS σ v) = some ((), sS σ (addC v k m)) := by
  have he := mny_eq h
  have hc : mny v < 8 := by omega
  unfold f_M_addsCarpet
  rw [rd_2, obs, sS_at (by decide), ← he, m_puts0 hc, b2s, m_puts1 hc, b2s, m_puts2 hc, b2s, m_puts3 hc, b2s, m_puts4 hc, b2s, m_puts5 hc, b2s, m_puts6 hc, b2s, obs, obs, sS_at (by decide), iI_add, sS_up (by decide)]
  have e : up (up (up (up (up (up (up v (10 + 7 * mny v + 0) k) (10 + 7 * mny v + 1) m) (10 + 7 * mny v + 2) 8) (10 + 7 * mny v + 3) 50) (10 + 7 * mny v + 4) 0) (10 + 7 * mny v + 5) (-1)) (10 + 7 * mny v + 6) 0 = setRug v (mny v) (newR k m) := by
    rw [up_set (s := v) (f := 0) (by decide), up_setRug (f := 1) (by decide), up_setRug (f := 2) (by decide), up_setRug (f := 3) (by decide), up_setRug (f := 4) (by decide), up_setRug (f := 5) (by decide), up_setRug (f := 6) (by decide)]
    refine setRug_cong (fun f hf => ?_)
    unfold newR up
    have : f = 0 ∨ f = 1 ∨ f = 2 ∨ f = 3 ∨ f = 4 ∨ f = 5 ∨ f = 6 := by omega
    rcases this with rfl | rfl | rfl | rfl | rfl | rfl | rfl <;> rfl
  rw [e, setRug_hd (by decide)]
  rfl
def PAd : Nat → Nat → Nat → Prop := fun t i _ => (t = 1 ∨ t = 2) ∧ i = 0
theorem x_addRug {σ : Sg} {v : Ro} (h : XW σ 0 v) (hg : GS v) (h8 : v 2 < 8) (k : Nat) (m : Int) : ∃ σ', f_World_addRug 0 k (iI m) σ = some (iI (v 2), σ') ∧ XW σ' 0 (addC v k m) ∧ Ag PAd σ σ' := by
  have he := mny_eq hg
  have hv2 := hg.2.2.1
  have hmn := addC_mny hg (k := k) (m := m)
  have hb : ∃ σ', f_Rug_begin 0 (mny v) k (iI m) σ = some ((), σ') ∧ XR σ' 0 (mny v) (newR k m) ∧ Ag (P1 2 0 (mny v)) σ σ' := by
    refine ⟨_, rfl, ?_, ((((((Ag.upK ⟨rfl, rfl, rfl⟩).tr (Ag.upI ⟨rfl, rfl, rfl⟩)).tr (Ag.upI ⟨rfl, rfl, rfl⟩)).tr (Ag.upI ⟨rfl, rfl, rfl⟩)).tr (Ag.upI ⟨rfl, rfl, rfl⟩)).tr (Ag.upI ⟨rfl, rfl, rfl⟩)).tr (Ag.upI ⟨rfl, rfl, rfl⟩)⟩
    refine ⟨?_, ?_, ?_, ?_, ?_, ?_, ?_⟩ <;> simp [upI_1, upI_2, upK_2, newR]
  obtain ⟨σ1, q1, q2, q3⟩ := hb
  have e1 : σ1.1 1 0 0 = σ.1 1 0 0 := (q3 1 0 0 (by simp [P1])).1
  have hA : Ag (fun t _ _ => t = 1) σ1 (upI σ1 1 0 0 0 (iI (v 2 + 1))) := Ag.upI rfl
  have hB : Ag PAd σ (upI σ1 1 0 0 0 (iI (v 2 + 1))) := (q3.mono (fun t i j z => ⟨Or.inr z.1, z.2.1⟩)).tr (Ag.upI ⟨Or.inl rfl, rfl⟩)
  refine ⟨upI σ1 1 0 0 0 (iI (v 2 + 1)), ?_, ⟨⟨?_, ?_, ?_, ?_⟩, ?_⟩, hB⟩
  · unfold f_World_addRug
    rw [h.1.1, if_pos (by rw [iI_lt (by omega) (by omega)]; exact h8), ← he, rd_N (by omega) (by decide), obs, q1, b2s, e1, h.1.1, iI_add, upI_1, if_pos ⟨rfl, rfl, rfl, rfl⟩, iI_sub, he, show v 2 + 1 - 1 = v 2 by omega]
  · rw [upI_1, if_pos ⟨rfl, rfl, rfl, rfl⟩, addC_2]
  · rw [upI_1, if_neg (by decide), e1, addC_hd (by decide) (by decide)]; exact h.1.2.1
  · rw [upI_1, if_neg (by decide), e1, addC_hd (by decide) (by decide)]; exact h.1.2.2.1
  · intro i hi
    rw [(hB 12 0 0 (by simp [PAd])).1, addC_hd (by omega) (by omega)]; exact h.1.2.2.2 i hi
  · intro c hc
    rw [hmn] at hc
    by_cases e : c = mny v
    · subst e
      exact (q2.ag hA (by simp)).cong (fun f hf => addC_at hf)
    · exact (((h.2 c (by omega)).ag q3 (by simp [P1, e])).ag hA (by simp)).cong (fun f hf => addC_ne e hf)
theorem both_carpet (n : Nat) (a b : Int32) : Both n (f_X_carpet a b) (f_M_carpet a b) := by
  intro σ h
  obtain ⟨za, rfl, ha⟩ := toI a
  obtain ⟨zb, rfl, hb⟩ := toI b
  obtain ⟨v, kp, len, bs, h1, h2⟩ := id h
  have g1 := h1.2.2.1
  have hv2 := g1.2.2.1
  by_cases hc : (0 ≤ za ∧ za ≤ 5) ∧ (0 ≤ zb ∧ zb ≤ 3)
  · obtain ⟨hca, hcb⟩ := hc
    by_cases h8 : v 2 < 8
    · obtain ⟨σ1, q1, q2, q3⟩ := x_addRug h1.2.1 g1 h8 za.toNat zb
      have gg := gv_add h1.2.2 h8 hca hcb
      rw [show ((za.toNat : Nat) : Int) = za by omega] at q2
      have e20 : σ1.1 20 = σ.1 20 := by
        funext i j k
        rw [(q3 20 i j (by simp [PAd])).1]
      refine ⟨iI (v 2), σ1, sS σ1 (addC v za zb), ?_, ?_, ?_⟩
      · unfold f_X_carpet
        rw [x_within _ _ _ ha (by omega) (by omega), b2s, if_pos hca, if_neg (by decide), x_within _ _ _ hb (by omega) (by omega), b2s, if_pos hcb, if_neg (by decide), rd_iI (by omega) (by omega) (by decide), obs, q1, b2s, if_pos (by rw [iI_le (by omega) (by omega)]; omega)]
      · have e : f_M_carpet (iI za) (iI zb) (sS σ1 v) = some (iI (v 2), sS σ1 (addC v za zb)) := by
          unfold f_M_carpet
          rw [m_in1 _ _ _ ha (by omega) (by omega), b2s, if_pos hca, if_neg (by decide), m_in1 _ _ _ hb (by omega) (by omega), b2s, if_pos hcb, if_neg (by decide), rd_2, obs, sS_at (by decide), if_neg (by rw [iI_eq (by omega) (by omega)]; omega), m_adds g1 h8, b2s, obs, sS_at (by decide), addC_2, iI_sub, show v 2 + 1 - 1 = v 2 by omega]
        rw [MS.keep h1 e20] at e
        exact e
      · exact h.wld ((q3.mono (fun t i j z => by unfold PAd at z; unfold PWl; omega)).tr (Ag.sS (Or.inl rfl))) (fun j hj => sS_at hj) (q2.ag (Ag.sS (P := fun t _ _ => t = 20) rfl) (by simp) (by simp) (by simp)) (gg.mono (by omega))
    · refine both_fo (k := 1) (by decide) h ?_ ?_
      · unfold f_X_carpet
        rw [x_within _ _ _ ha (by omega) (by omega), b2s, if_pos hca, if_neg (by decide), x_within _ _ _ hb (by omega) (by omega), b2s, if_pos hcb, if_neg (by decide), rd_iI (by omega) (by omega) (by decide), obs]
        unfold f_World_addRug
        rw [h1.2.1.1.1, if_neg (by rw [iI_lt (by omega) (by omega)]; exact h8), b2s, if_neg (by decide), x_found1, b2s]
        rfl
      · have e : f_M_carpet (iI za) (iI zb) (sS (foS σ 1) v) = some (iI (-1000000002), noS (sS (foS σ 1) v) 1) := by
          unfold f_M_carpet
          rw [m_in1 _ _ _ ha (by omega) (by omega), b2s, if_pos hca, if_neg (by decide), m_in1 _ _ _ hb (by omega) (by omega), b2s, if_pos hcb, if_neg (by decide), rd_2, obs, sS_at (by decide), if_pos (by rw [iI_eq (by omega) (by omega)]; omega), m_no1, b2s]
        rw [h1.fo] at e
        exact e
  · refine both_fo (k := 0) (by decide) h ?_ ?_
    · unfold f_X_carpet j_X_carpet_18
      rw [x_within _ _ _ ha (by omega) (by omega), b2s]
      by_cases h1 : 0 ≤ za ∧ za ≤ 5
      · rw [if_pos h1, if_neg (by decide), x_within _ _ _ hb (by omega) (by omega), b2s, if_neg (fun z => hc ⟨h1, z⟩), if_pos (by decide), x_found0, b2s]
        rfl
      · rw [if_neg h1, if_pos (by decide), x_found0, b2s]
        rfl
    · unfold f_M_carpet j_M_carpet_18
      rw [m_in1 _ _ _ ha (by omega) (by omega), b2s]
      by_cases h1 : 0 ≤ za ∧ za ≤ 5
      · rw [if_pos h1, if_neg (by decide), m_in1 _ _ _ hb (by omega) (by omega), b2s, if_neg (fun z => hc ⟨h1, z⟩), if_pos (by decide), m_no0, b2s]
        rfl
      · rw [if_neg h1, if_pos (by decide), m_no0, b2s]
        rfl
/-- the sum of a row -/
def smN (f : Nat → Int32) : Nat → Int32
  | 0 => iI 0
  | k + 1 => smN f k + f k
theorem smN_cong {f g : Nat → Int32} : ∀ k : Nat, (∀ i, i < k → f i = g i) → smN f k = smN g k := by
  intro k
  induction k with
  | zero => exact fun _ => rfl
  | succ k ih =>
    intro h
    show smN f k + f k = smN g k + g k
    rw [ih (fun i hi => h i (by omega)), h k (by omega)]
theorem both_status (n : Nat) (a : Int32) : Both n (f_X_status a) (f_M_status a) := by
  intro σ h
  obtain ⟨za, rfl, ha⟩ := toI a
  obtain ⟨v, kp, len, bs, h1, h2, h3, h4, h5⟩ := id h
  by_cases hc : -1 ≤ za ∧ za ≤ 6
  · have hX : lp (fun a => b_X_status_32 a.1 a.2.1 a.2.2) FU (iI 0, iI 0, σ) = some (smN (σ.1 18 0 0) 7, σ) := by
      refine lp_run (fun i => (smN (σ.1 18 0 0) i, iI (i : Int), σ)) _ 7 FU ?_ ?_ (by decide)
      · intro i hi
        show b_X_status_32 _ (iI (i : Int)) σ = _
        unfold b_X_status_32
        rw [if_neg (by rw [iI_le (by omega) (by omega)]; omega), rd_N hi (by decide), obs, iI_add]
        rfl
      · rfl
    have hM : lp (fun a => b_M_status_20 (iI za) a.1 a.2.1 a.2.2) FU (iI 0, iI 0, σ) = some (smN (fun i => if za = -1 ∨ za = i then σ.1 23 0 0 i else iI 0) 7, σ) := by
      refine lp_run (fun i => (smN (fun i => if za = -1 ∨ za = i then σ.1 23 0 0 i else iI 0) i, iI (i : Int), σ)) _ 7 FU ?_ ?_ (by decide)
      · intro i hi
        show b_M_status_20 (iI za) _ (iI (i : Int)) σ = _
        unfold b_M_status_20 j_M_status_37
        rw [if_neg (by rw [iI_le (by omega) (by omega)]; omega), rd_N hi (by decide), obs, iI_add]
        show _ = some (Sum.inl (smN _ i + (if za = -1 ∨ za = (i : Int) then σ.1 23 0 0 i else iI 0), iI ((i + 1 : Nat) : Int), σ))
        by_cases e1 : za = -1
        · rw [if_pos (show iI za = iI (-1) by rw [e1]), if_pos (show za = -1 ∨ za = (i : Int) from Or.inl e1)]
          rfl
        · rw [if_neg (show ¬ iI za = iI (-1) by rw [iI_eq (by omega) (by omega)]; exact e1)]
          by_cases e2 : za = (i : Int)
          · rw [if_pos (show iI za = iI (i : Int) by rw [e2]), if_pos (show za = -1 ∨ za = (i : Int) from Or.inr e2)]
            rfl
          · rw [if_neg (show ¬ iI za = iI (i : Int) by rw [iI_eq (by omega) (by omega)]; exact e2), if_neg (show ¬ (za = -1 ∨ za = (i : Int)) by omega)]
            rfl
      · rfl
    have hM' : f_M_status (iI za) σ = some (smN (fun i => if za = -1 ∨ za = i then σ.1 23 0 0 i else iI 0) 7, σ) := by
      unfold f_M_status
      rw [m_in1 _ _ _ ha (by omega) (by omega), b2s, if_pos hc, if_neg (by decide), hM, obs]
    by_cases hz : za = -1
    · refine both_q (σ2 := σ) h (r := smN (σ.1 18 0 0) 7) (σ1 := σ) ?_ Ag.rf ?_ Ag.rf
      · unfold f_X_status
        rw [x_within _ _ _ ha (by omega) (by omega), b2s, if_pos hc, if_neg (by decide), if_pos (by rw [iI_lt (by omega) (by omega)]; omega), hX, obs]
      · rw [hM']
        refine congrArg (fun z => some (z, σ)) ?_
        exact (smN_cong 7 (fun i hi => by rw [if_pos (Or.inl hz)]; exact h3 i hi)).symm
    · have hz0 : za = ((za.toNat : Nat) : Int) := by omega
      have hz7 : za.toNat < 7 := by omega
      refine both_q (σ2 := σ) h (r := σ.1 18 0 0 za.toNat) (σ1 := σ) ?_ Ag.rf ?_ Ag.rf
      · unfold f_X_status
        rw [x_within _ _ _ ha (by omega) (by omega), b2s, if_pos hc, if_neg (by decide), if_neg (by rw [iI_lt (by omega) (by omega)]; omega), rd_iI (by omega) (by omega) (by decide), obs]
      · rw [hM']
        refine congrArg (fun z => some (z, σ)) ?_
        rw [h3 _ hz7]
        generalize za.toNat = q at hz0 hz7 ⊢
        subst hz0
        have : q = 0 ∨ q = 1 ∨ q = 2 ∨ q = 3 ∨ q = 4 ∨ q = 5 ∨ q = 6 := by omega
        rcases this with rfl | rfl | rfl | rfl | rfl | rfl | rfl <;> simp [smN, iI]
  · refine both_fo (k := 0) (by decide) h ?_ ?_
    · unfold f_X_status
      rw [x_within _ _ _ ha (by omega) (by omega), b2s, if_neg hc, if_pos (by decide), x_found0, b2s]
      rfl
    · unfold f_M_status
      rw [m_in1 _ _ _ ha (by omega) (by omega), b2s, if_neg hc, if_pos (by decide), m_no0, b2s]
      rfl
