/-! PURE: lays (side by side) -/
theorem lg_lt {x y : Int64} : (lg_cmp x y < iI 0) = (x.toInt < y.toInt) := by
  unfold lg_cmp
  by_cases h1 : x > y
  · have := Int64.lt_iff_toInt_lt.mp h1
    rw [if_pos h1]
    exact propext ⟨fun z => absurd z (by decide), fun z => by omega⟩
  · have h1' : ¬ y.toInt < x.toInt := fun z => h1 (Int64.lt_iff_toInt_lt.mpr z)
    rw [if_neg h1]
    by_cases h2 : x = y
    · rw [if_pos h2, h2]
      exact propext ⟨fun z => absurd z (by decide), fun z => by omega⟩
    · have h2' : x.toInt ≠ y.toInt := fun z => h2 (Int64.toInt_inj.mp z)
      rw [if_neg h2]
      exact propext ⟨fun _ => by omega, fun _ => by decide⟩
theorem lg_gt {x y : Int64} : (iI 0 < lg_cmp x y) = (y.toInt < x.toInt) := by
  unfold lg_cmp
  by_cases h1 : x > y
  · have := Int64.lt_iff_toInt_lt.mp h1
    rw [if_pos h1]
    exact propext ⟨fun _ => this, fun _ => by decide⟩
  · have h1' : ¬ y.toInt < x.toInt := fun z => h1 (Int64.lt_iff_toInt_lt.mpr z)
    rw [if_neg h1]
    by_cases h2 : x = y
    · rw [if_pos h2]
      exact propext ⟨fun z => absurd z (by decide), fun z => absurd z h1'⟩
    · rw [if_neg h2]
      exact propext ⟨fun z => absurd z (by decide), fun z => absurd z h1'⟩
theorem lg_eq {x y : Int64} : (lg_cmp x y = iI 0) = (x = y) := by
  unfold lg_cmp
  by_cases h1 : x > y
  · have := Int64.lt_iff_toInt_lt.mp h1
    rw [if_pos h1]
    exact propext ⟨fun z => absurd z (by decide), fun z => by rw [z] at this; omega⟩
  · rw [if_neg h1]
    by_cases h2 : x = y
    · rw [if_pos h2]
      exact propext ⟨fun _ => h2, fun _ => rfl⟩
    · rw [if_neg h2]
      exact propext ⟨fun z => absurd z (by decide), fun z => absurd z h2⟩
theorem lI_0 : (lI 0).toInt = 0 := by decide
theorem lI_99 : (lI 99).toInt = 99 := by decide
theorem up_self {s : Ro} {k : Nat} : up s k (s k) = s := by
  funext j
  unfold up
  split
  · rename_i e; rw [e]
  · rfl
def lyN (v : Ro) (u : Nat → Int64) : Nat → Ro
  | 0 => v
  | k + 1 => if 0 ≤ (u k).toInt ∧ (u k).toInt ≤ 99 then setRug (lyN v u k) k (up (rug (lyN v u k) k) 3 (u k).toInt) else lyN v u k
theorem lyN_succ (v : Ro) (u : Nat → Int64) (k : Nat) : lyN v u (k + 1) = if 0 ≤ (u k).toInt ∧ (u k).toInt ≤ 99 then setRug (lyN v u k) k (up (rug (lyN v u k) k) 3 (u k).toInt) else lyN v u k := rfl
def lcN (u : Nat → Int64) : Nat → Int
  | 0 => 0
  | k + 1 => lcN u k + (if 0 ≤ (u k).toInt ∧ (u k).toInt ≤ 99 then 1 else 0)
theorem lcN_succ (u : Nat → Int64) (k : Nat) : lcN u (k + 1) = lcN u k + (if 0 ≤ (u k).toInt ∧ (u k).toInt ≤ 99 then 1 else 0) := rfl
theorem lyN_hd (v : Ro) (u : Nat → Int64) : ∀ (k : Nat) {i : Nat}, i < 10 → lyN v u k i = v i := by
  intro k
  induction k with
  | zero => intro i _; rfl
  | succ k ih =>
    intro i hi
    rw [lyN_succ]
    split
    · rw [setRug_hd hi, ih hi]
    · exact ih hi
theorem lyN_rug (v : Ro) (u : Nat → Int64) : ∀ (k c : Nat) {f : Nat}, f < 7 → f ≠ 3 → rug (lyN v u k) c f = rug v c f := by
  intro k
  induction k with
  | zero => intro c f _ _; rfl
  | succ k ih =>
    intro c f hf h3
    rw [lyN_succ]
    split
    · by_cases e : c = k
      · subst e
        rw [setRug_at hf, up_ne h3, ih c hf h3]
      · rw [setRug_ne e hf, ih c hf h3]
    · exact ih c hf h3
theorem lyN_mny (v : Ro) (u : Nat → Int64) (k : Nat) : mny (lyN v u k) = mny v := mny_hd (fun _ hi => lyN_hd v u k hi)
theorem gs_ly {v : Ro} (h : GS v) (u : Nat → Int64) : ∀ k : Nat, k ≤ mny v → GS (lyN v u k) := by
  intro k
  induction k with
  | zero => exact fun _ => h
  | succ k ih =>
    intro hk
    have g := ih (by omega)
    rw [lyN_succ]
    split
    · rename_i hq
      exact g.set ((g.rg (k := k) (by rw [lyN_mny]; omega)).set (by omega) (by omega) (fun _ => hq) (by omega) (by omega) (by omega) (by omega))
    · exact g
theorem gv_ly {n : Nat} {v : Ro} (h : GV n v) (u : Nat → Int64) {k : Nat} (hk : k ≤ mny v) : GV n (lyN v u k) := by
  obtain ⟨g1, g2, g3, g4, g5⟩ := h
  refine ⟨gs_ly g1 u k hk, by rw [lyN_hd v u k (by decide)]; exact g2, ?_, by rw [lyN_hd v u k (by decide)]; exact g4, ?_⟩
  · intro a b ha hb oa ob e
    rw [lyN_mny] at ha hb
    rw [lyN_rug v u k _ (by decide) (by decide)] at oa ob
    rw [lyN_rug v u k _ (by decide) (by decide), lyN_rug v u k _ (by decide) (by decide)] at e
    exact g3 a b ha hb oa ob e
  · intro a ha oa
    rw [lyN_mny] at ha
    rw [lyN_rug v u k _ (by decide) (by decide)] at oa
    rw [lyN_rug v u k _ (by decide) (by decide), lyN_hd v u k (by decide)]
    exact g5 a ha oa
theorem xw_pile {σ : Sg} {w : Ro} (h : XW σ 0 w) {c : Nat} (x : Int) : XW (upI σ 2 0 c 3 (iI x)) 0 (setRug w c (up (rug w c) 3 x)) := by
  have ha : Ag (P1 2 0 c) σ (upI σ 2 0 c 3 (iI x)) := Ag.upI ⟨rfl, rfl, rfl⟩
  refine ⟨?_, fun j hj => ?_⟩
  · have hh := h.1.ag ha (by simp [P1]) (by simp [P1])
    unfold XH
    rw [setRug_hd (by decide), setRug_hd (by decide), setRug_hd (by decide)]
    exact ⟨hh.1, hh.2.1, hh.2.2.1, fun i hi => by rw [setRug_hd (by omega)]; exact hh.2.2.2 i hi⟩
  · rw [mny_hd (fun i hi => setRug_hd hi)] at hj
    by_cases e : j = c
    · subst e
      refine XR.cong (r := up (rug w j) 3 x) ?_ (fun f hf => setRug_at hf)
      obtain ⟨x0, x1, x2, x3, x4, x5, x6⟩ := h.2 j hj
      refine ⟨x0, ?_, ?_, ?_, ?_, ?_, fun q => ?_⟩
      · simp [upI_1, up, x1]
      · simp [upI_1, up, x2]
      · simp [upI_1, up]
      · simp [upI_1, up, x4]
      · simp [upI_1, up, x5]
      · simp [upI_1, up]; exact x6 q
    · exact ((h.2 j hj).ag ha (by simp [P1, e])).cong (fun f hf => setRug_ne e hf)
theorem both_lays (n : Nat) (a : Int32) : Both n (f_X_lays a) (f_M_lays a) := by
  intro σ h
  obtain ⟨za, rfl, ha⟩ := toI a
  obtain ⟨v, kp, len, bs, h1, h2, h3, h4, h5⟩ := id h
  have g1 := h1.2.2.1
  have hmn := mny_eq g1
  have hm8 := mny_le g1
  have f28 : ∀ k : Nat, (foS σ k).1 28 = σ.1 28 := fun k => by funext i j q; simp [foS, upI_1]
  by_cases hca : 0 ≤ za ∧ za ≤ 3
  · obtain ⟨s, hs⟩ : ∃ s : Nat, za = (s : Int) := ⟨za.toNat, by omega⟩
    subst hs
    have hs4 : s < 4 := by omega
    obtain ⟨k1, k2, ⟨z, z1, z2, z3⟩, k4⟩ := h5 s hs4
    by_cases hm : σ.1 28 0 0 s = iI 0
    · refine both_fg (k := 5) (by decide) (r := iI (-1000000006)) h ?_ ?_
      · unfold f_X_lays
        rw [x_sf_miss hs4 (by rw [k1]; exact hm), b2s, if_neg (by decide), x_found5, b2s]
      · unfold f_M_lays
        rw [m_ws_miss hs4 (by rw [f28]; exact hm), b2s, if_neg (by decide), m_no5, b2s]
    · have hm3 : ¬ σ.1 3 s 0 0 = iI 0 := by rw [k1]; exact hm
      obtain ⟨N, n1, n2, n3⟩ : ∃ N : Nat, N ≤ mny v ∧ N ≤ z ∧ (N = z ∨ N = mny v) := ⟨if z ≤ mny v then z else mny v, by split <;> omega, by split <;> omega, by split <;> omega⟩
      have hl : ∃ b, lp (fun a => b_X_lays_29 s a.1 a.2.1 a.2.2) FU (iI 0, iI 0, σ) = some b ∧ (b.1 = iI (lcN (σ.2.1 17 s 0) N) ∧ XW b.2 0 (lyN v (σ.2.1 17 s 0) N) ∧ Ag (fun t i _ => t = 2 ∧ i = 0) σ b.2) := by
        refine lp_rel (fun i a => a.1 = iI (lcN (σ.2.1 17 s 0) i) ∧ a.2.1 = iI (i : Int) ∧ XW a.2.2 0 (lyN v (σ.2.1 17 s 0) i) ∧ Ag (fun t i _ => t = 2 ∧ i = 0) σ a.2.2) (fun b : Int32 × Sg => b.1 = iI (lcN (σ.2.1 17 s 0) N) ∧ XW b.2 0 (lyN v (σ.2.1 17 s 0) N) ∧ Ag (fun t i _ => t = 2 ∧ i = 0) σ b.2) N FU (iI 0, iI 0, σ) ⟨rfl, rfl, h1.2.1, Ag.rf⟩ ?_ ?_ (Nat.lt_of_le_of_lt (show N ≤ 40 by omega) (by decide))
        · intro i a hi hI
          obtain ⟨a1, a2, a3⟩ := a
          obtain ⟨rfl, rfl, i3, i4⟩ := hI
          have i3 : XW a3 0 (lyN v (σ.2.1 17 s 0) i) := i3
          have i4 : Ag (fun t i _ => t = 2 ∧ i = 0) σ a3 := i4
          have e3 : a3.1 3 s 0 1 = iI (z : Int) := by rw [(i4 3 s 0 (by simp)).1]; exact z2
          have e1 : a3.1 1 0 0 0 = iI (v 2) := by rw [i3.1.1, lyN_hd v _ i (by decide)]
          have e17 : a3.2.1 17 s 0 i = σ.2.1 17 s 0 i := by rw [(i4 17 s 0 (by simp)).2.1]
          by_cases hok : 0 ≤ (σ.2.1 17 s 0 i).toInt ∧ (σ.2.1 17 s 0 i).toInt ≤ 99
          · refine ⟨(iI (lcN (σ.2.1 17 s 0) (i + 1)), iI ((i + 1 : Nat) : Int), upI a3 2 0 i 3 (iI (σ.2.1 17 s 0 i).toInt)), ?_, rfl, rfl, ?_, i4.tr (Ag.upI ⟨rfl, rfl⟩)⟩
            · show b_X_lays_29 s (iI (lcN (σ.2.1 17 s 0) i)) (iI (i : Int)) a3 = _
              unfold b_X_lays_29
              rw [e3, if_neg (by rw [iI_le (by omega) (by omega)]; omega), e1, if_neg (by rw [iI_le (by omega) (by omega)]; omega), rd_N (by omega) (by decide), obs, e17, if_neg (by rw [lg_lt, lI_0]; omega), if_neg (by rw [lg_gt, lI_99]; omega), rd_N (by omega) (by decide), obs, lcN_succ, if_pos hok, iI_add, iI_add, ← Int32.ofInt_int64ToInt]
              rfl
            · show XW (upI a3 2 0 i 3 (iI (σ.2.1 17 s 0 i).toInt)) 0 (lyN v (σ.2.1 17 s 0) (i + 1))
              rw [lyN_succ, if_pos hok]
              exact xw_pile i3 _
          · refine ⟨(iI (lcN (σ.2.1 17 s 0) (i + 1)), iI ((i + 1 : Nat) : Int), a3), ?_, rfl, rfl, ?_, i4⟩
            · show b_X_lays_29 s (iI (lcN (σ.2.1 17 s 0) i)) (iI (i : Int)) a3 = _
              unfold b_X_lays_29
              rw [e3, if_neg (by rw [iI_le (by omega) (by omega)]; omega), e1, if_neg (by rw [iI_le (by omega) (by omega)]; omega), rd_N (by omega) (by decide), obs, e17, lcN_succ, if_neg hok, iI_add, iI_add, Int.add_zero]
              by_cases hlt : (σ.2.1 17 s 0 i).toInt < 0
              · rw [if_pos (by rw [lg_lt, lI_0]; exact hlt)]
                rfl
              · rw [if_neg (by rw [lg_lt, lI_0]; exact hlt), if_pos (by rw [lg_gt, lI_99]; omega)]
                rfl
            · show XW a3 0 (lyN v (σ.2.1 17 s 0) (i + 1))
              rw [lyN_succ, if_neg hok]
              exact i3
        · intro a hI
          obtain ⟨a1, a2, a3⟩ := a
          obtain ⟨rfl, rfl, i3, i4⟩ := hI
          have i3 : XW a3 0 (lyN v (σ.2.1 17 s 0) N) := i3
          have i4 : Ag (fun t i _ => t = 2 ∧ i = 0) σ a3 := i4
          have e3 : a3.1 3 s 0 1 = iI (z : Int) := by rw [(i4 3 s 0 (by simp)).1]; exact z2
          have e1 : a3.1 1 0 0 0 = iI (v 2) := by rw [i3.1.1, lyN_hd v _ N (by decide)]
          refine ⟨(iI (lcN (σ.2.1 17 s 0) N), a3), ?_, rfl, i3, i4⟩
          show b_X_lays_29 s (iI (lcN (σ.2.1 17 s 0) N)) (iI (N : Int)) a3 = _
          unfold b_X_lays_29
          rw [e3, e1]
          by_cases e : N = z
          · rw [if_pos (by rw [iI_le (by omega) (by omega)]; omega)]
          · rw [if_neg (by rw [iI_le (by omega) (by omega)]; omega), if_pos (by rw [iI_le (by omega) (by omega)]; omega)]
      obtain ⟨⟨b, σ1⟩, p1, p2, p3, hag⟩ := hl
      have p2 : b = iI (lcN (σ.2.1 17 s 0) N) := p2
      subst p2
      have p3 : XW σ1 0 (lyN v (σ.2.1 17 s 0) N) := p3
      have hag : Ag (fun t i _ => t = 2 ∧ i = 0) σ σ1 := hag
      have e20 : σ1.1 20 = σ.1 20 := by
        funext i j k
        rw [(hag 20 i j (by simp)).1]
      have hM : lp (fun a => b_M_lays_21 (iI (s : Int)) a.1 a.2.1 a.2.2) FU (iI 0, iI 0, sS σ1 v) = some (iI (lcN (σ.2.1 17 s 0) N), sS σ1 (lyN v (σ.2.1 17 s 0) N)) := by
        have e29 : ∀ w, (sS σ1 w).1 29 0 0 s = iI (z : Int) := fun w => by rw [show (sS σ1 w).1 29 = σ1.1 29 from r66_ne (by decide), (hag 29 0 0 (by simp)).1]; exact z3
        have e30 : ∀ i, i < 40 → σ1.2.1 30 0 0 (40 * s + i) = σ.2.1 17 s 0 i := fun i hi => by rw [(hag 30 0 0 (by simp)).2.1]; exact (k4 i hi).symm
        refine lp_run (fun i => (iI (lcN (σ.2.1 17 s 0) i), iI (i : Int), sS σ1 (lyN v (σ.2.1 17 s 0) i))) _ N FU ?_ ?_ (Nat.lt_of_le_of_lt (show N ≤ 40 by omega) (by decide))
        · intro i hi
          show b_M_lays_21 (iI (s : Int)) (iI (lcN (σ.2.1 17 s 0) i)) (iI (i : Int)) (sS σ1 (lyN v (σ.2.1 17 s 0) i)) = _
          have ht : f_M_told (iI (s : Int)) (iI (i : Int)) (sS σ1 (lyN v (σ.2.1 17 s 0) i)) = some (σ.2.1 17 s 0 i, sS σ1 (lyN v (σ.2.1 17 s 0) i)) := by
            unfold f_M_told
            rw [iI_mul, iI_add, show 40 * (s : Int) + (i : Int) = ((40 * s + i : Nat) : Int) by omega, rd_N (by omega) (by decide), obs, show (sS σ1 (lyN v (σ.2.1 17 s 0) i)).2 = σ1.2 from rfl, e30 i (by omega)]
          unfold b_M_lays_21 j_M_lays_74 j_M_lays_103
          rw [rd_N hs4 (by decide), obs, e29, if_neg (by rw [iI_le (by omega) (by omega)]; omega), rd_2, obs, sS_at (by decide), lyN_hd v _ i (by decide), if_neg (by rw [iI_le (by omega) (by omega)]; omega), ht, b2s, lcN_succ, lyN_succ]
          by_cases hok : 0 ≤ (σ.2.1 17 s 0 i).toInt ∧ (σ.2.1 17 s 0 i).toInt ≤ 99
          · rw [if_neg (by rw [lg_lt, lI_0]; omega), ht, b2s, if_neg (by rw [lg_gt, lI_99]; omega), if_neg (by decide), ht, b2s, ← Int32.ofInt_int64ToInt, show Int32.ofInt (σ.2.1 17 s 0 i).toInt = iI (σ.2.1 17 s 0 i).toInt from rfl, m_puts3 (by omega), b2s, if_neg (by decide), iI_add, iI_add, if_pos hok, if_pos hok, up_set (by decide)]
            rfl
          · rw [if_neg hok, if_neg hok, Int.add_zero]
            have hj : b2 (f_M_get (iI (i : Int)) (iI 3) (sS σ1 (lyN v (σ.2.1 17 s 0) i))) (fun v11 σ12 => b2 (f_M_puts (iI (i : Int)) (iI 3) v11 σ12) (fun v14 σ15 => (if iI 0 = (iI 0) then some (Sum.inl (iI (lcN (σ.2.1 17 s 0) i) + (iI 0), iI (i : Int) + (iI 1), σ15)) else some (Sum.inl (iI (lcN (σ.2.1 17 s 0) i) + (iI 1), iI (i : Int) + (iI 1), σ15))))) = (some (Sum.inl (iI (lcN (σ.2.1 17 s 0) i), iI ((i + 1 : Nat) : Int), sS σ1 (lyN v (σ.2.1 17 s 0) i))) : Option ((Int32 × Int32 × Sg) ⊕ (Int32 × Sg))) := by
              rw [m_get3 (by omega), b2s, m_puts3 (by omega), b2s, if_pos rfl, iI_add, iI_add, Int.add_zero, show up (lyN v (σ.2.1 17 s 0) i) (10 + 7 * i + 3) (rug (lyN v (σ.2.1 17 s 0) i) i 3) = lyN v (σ.2.1 17 s 0) i from up_self]
              rfl
            by_cases hlt : (σ.2.1 17 s 0 i).toInt < 0
            · rw [if_pos (by rw [lg_lt, lI_0]; exact hlt), if_pos rfl]
              exact hj
            · rw [if_neg (by rw [lg_lt, lI_0]; exact hlt), ht, b2s, if_pos (by rw [lg_gt, lI_99]; omega), if_pos rfl]
              exact hj
        · show b_M_lays_21 (iI (s : Int)) (iI (lcN (σ.2.1 17 s 0) N)) (iI (N : Int)) (sS σ1 (lyN v (σ.2.1 17 s 0) N)) = _
          unfold b_M_lays_21
          rw [rd_N hs4 (by decide), obs, e29, rd_2, obs, sS_at (by decide), lyN_hd v _ N (by decide)]
          by_cases e : N = z
          · rw [if_pos (by rw [iI_le (by omega) (by omega)]; omega)]
          · rw [if_neg (by rw [iI_le (by omega) (by omega)]; omega), if_pos (by rw [iI_le (by omega) (by omega)]; omega)]
      refine ⟨iI (lcN (σ.2.1 17 s 0) N), σ1, sS σ1 (lyN v (σ.2.1 17 s 0) N), ?_, ?_, h.wld ((hag.mono (fun t i j z => by unfold PWl; omega)).tr (Ag.sS (Or.inl rfl))) (fun j hj => sS_at hj) (p3.ag (Ag.sS (P := fun t _ _ => t = 20) rfl) (by simp) (by simp) (by simp)) ((gv_ly h1.2.2 _ n1).mono (by omega))⟩
      · unfold f_X_lays
        rw [x_sf_ok hs4 hm3, b2s, if_pos rfl, rd_N hs4 (by decide), obs, p1, obs]
      · have e : f_M_lays (iI (s : Int)) (sS σ1 v) = some (iI (lcN (σ.2.1 17 s 0) N), sS σ1 (lyN v (σ.2.1 17 s 0) N)) := by
          unfold f_M_lays
          rw [m_ws_ok hs4 (by rw [show (sS σ1 v).1 28 = σ1.1 28 from r66_ne (by decide), (hag 28 0 0 (by simp)).1]; exact hm), b2s, if_pos (by decide), hM, obs]
        rw [MS.keep h1 e20] at e
        exact e
  · refine both_fg (k := 0) (by decide) (r := iI (-1000000001)) h ?_ ?_
    · unfold f_X_lays
      rw [x_sf_no ha hca, b2s, if_neg (by decide), x_found0, b2s]
    · unfold f_M_lays
      rw [m_ws_no ha hca, b2s, if_neg (by decide), m_no0, b2s]
