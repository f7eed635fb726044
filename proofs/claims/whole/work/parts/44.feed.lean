/-! PURE: feed (side by side) -/
theorem byte_rg (x : Int32) : ∃ z : Int, x &&& iI 255 = iI z ∧ 0 ≤ z ∧ z ≤ 255 := by
  have h1 : (x &&& iI 255).toInt = (x.toBitVec &&& 255#32).toInt := rfl
  have h2 : (x.toBitVec &&& 255#32).toNat ≤ 255 := by
    rw [BitVec.toNat_and]
    exact Nat.and_le_right
  have h3 : (x.toBitVec &&& 255#32).toInt = ((x.toBitVec &&& 255#32).toNat : Int) := BitVec.toInt_eq_toNat_of_lt (by omega)
  refine ⟨(x &&& iI 255).toInt, (Int32.ofInt_toInt _).symm, ?_, ?_⟩
  · rw [h1, h3]; omega
  · rw [h1, h3]; omega
theorem both_feed (n : Nat) (a b : Int32) : Both n (f_X_feed a b) (f_M_feed a b) := by
  intro σ h
  obtain ⟨zb, rfl, hb⟩ := toI b
  obtain ⟨v, kp, len, bs, h1, h2, h3, h4, h5⟩ := id h
  obtain ⟨t1, t2, t3, t4⟩ := id h4
  obtain ⟨bz, hbz⟩ : ∃ bz : Nat → Int, ∀ i : Nat, (a >>> ((iI 8 * iI (i : Int)) &&& 31)) &&& iI 255 = iI (bz i) ∧ 0 ≤ bz i ∧ bz i ≤ 255 := ⟨fun i => Classical.choose (byte_rg (a >>> ((iI 8 * iI (i : Int)) &&& 31))), fun i => Classical.choose_spec (byte_rg (a >>> ((iI 8 * iI (i : Int)) &&& 31)))⟩
  by_cases hc : 1 ≤ zb ∧ zb ≤ 4
  · by_cases hl : (len : Int) + zb ≤ 120
    · obtain ⟨m, hm⟩ : ∃ m : Nat, zb = (m : Int) := ⟨zb.toNat, by omega⟩
      subst hm
      have hX : ∃ s, lp (fun q => b_X_feed_41 a q.1 q.2) FU (iI ((m : Int) - 1), σ) = some s ∧ (s.1 4 0 0 0 = iI ((len + m : Nat) : Int) ∧ (∀ j, j < len → s.1 15 0 0 j = iI (bs j)) ∧ (∀ j, j < m → s.1 15 0 0 (len + j) = iI (bz (m - 1 - j))) ∧ Ag (fun t _ _ => t = 4 ∨ t = 15) σ s) := by
        refine lp_rel (fun k q => q.1 = iI ((m : Int) - 1 - k) ∧ q.2.1 4 0 0 0 = iI ((len + k : Nat) : Int) ∧ (∀ j, j < len → q.2.1 15 0 0 j = iI (bs j)) ∧ (∀ j, j < k → q.2.1 15 0 0 (len + j) = iI (bz (m - 1 - j))) ∧ Ag (fun t _ _ => t = 4 ∨ t = 15) σ q.2) (fun s : Sg => s.1 4 0 0 0 = iI ((len + m : Nat) : Int) ∧ (∀ j, j < len → s.1 15 0 0 j = iI (bs j)) ∧ (∀ j, j < m → s.1 15 0 0 (len + j) = iI (bz (m - 1 - j))) ∧ Ag (fun t _ _ => t = 4 ∨ t = 15) σ s) m FU (iI ((m : Int) - 1), σ) ⟨by show iI _ = iI _; congr 1; omega, t1, fun j hj => (t4 j hj).1, fun j hj => absurd hj (Nat.not_lt_zero j), Ag.rf⟩ ?_ ?_ (Nat.lt_of_le_of_lt (show m ≤ 4 by omega) (by decide))
        · intro k q hk hI
          obtain ⟨q1, q2⟩ := q
          obtain ⟨rfl, i1, i2, i3, i4⟩ := hI
          have i1 : q2.1 4 0 0 0 = iI ((len + k : Nat) : Int) := i1
          have i2 : ∀ j, j < len → q2.1 15 0 0 j = iI (bs j) := i2
          have i3 : ∀ j, j < k → q2.1 15 0 0 (len + j) = iI (bz (m - 1 - j)) := i3
          refine ⟨(iI ((m : Int) - 1 - ((k + 1 : Nat) : Int)), upI (upI q2 15 0 0 (len + k) (iI (bz (m - 1 - k)))) 4 0 0 0 (iI ((len + (k + 1) : Nat) : Int))), ?_, rfl, ?_, ?_, ?_, ?_⟩
          · show b_X_feed_41 a (iI ((m : Int) - 1 - k)) q2 = _
            unfold b_X_feed_41 f_Tape_addByte
            rw [if_neg (by rw [iI_lt (by omega) (by omega)]; omega), i1, if_neg (by rw [iI_le (by omega) (by omega)]; omega), rd_N (by omega) (by decide), obs, b2s, iI_add, show (m : Int) - 1 - k = ((m - 1 - k : Nat) : Int) by omega, (hbz _).1, upI_1, if_neg (fun z => absurd z.1 (by decide)), i1, iI_add, show ((m - 1 - k : Nat) : Int) + -1 = (m : Int) - 1 - ((k + 1 : Nat) : Int) by omega]
            rfl
          · show (upI _ 4 0 0 0 _).1 4 0 0 0 = _
            rw [upI_1, if_pos ⟨rfl, rfl, rfl, rfl⟩]
          · intro j hj
            show (upI (upI q2 15 0 0 (len + k) _) 4 0 0 0 _).1 15 0 0 j = _
            rw [upI_1, if_neg (fun z => absurd z.1 (by decide)), upI_1, if_neg (fun z => absurd z.2.2.2 (by omega))]
            exact i2 j hj
          · intro j hj
            show (upI (upI q2 15 0 0 (len + k) _) 4 0 0 0 _).1 15 0 0 (len + j) = _
            rw [upI_1, if_neg (fun z => absurd z.1 (by decide)), upI_1]
            by_cases e : j = k
            · rw [if_pos ⟨rfl, rfl, rfl, by omega⟩, e]
            · rw [if_neg (fun z => absurd z.2.2.2 (by omega))]
              exact i3 j (by omega)
          · exact (Ag.tr i4 (Ag.upI (Or.inr rfl))).tr (Ag.upI (Or.inl rfl))
        · intro q hI
          obtain ⟨q1, q2⟩ := q
          obtain ⟨rfl, i1, i2, i3, i4⟩ := hI
          refine ⟨q2, ?_, i1, i2, i3, i4⟩
          show b_X_feed_41 a (iI ((m : Int) - 1 - m)) q2 = _
          unfold b_X_feed_41
          rw [if_pos (by rw [iI_lt (by omega) (by omega)]; omega)]
      obtain ⟨s, p1, p2, p3, p4, p5⟩ := hX
      have s6 : s.1 6 0 0 = σ.1 6 0 0 := (p5 6 0 0 (by simp)).1
      have s24 : s.1 24 0 0 = σ.1 24 0 0 := (p5 24 0 0 (by simp)).1
      have hM : ∃ u, lp (fun q => b_M_feed_36 a q.1 q.2) FU (iI ((m : Int) - 1), s) = some u ∧ ((u.1 6 0 0 1 = iI ((len + m : Nat) : Int) ∧ u.1 6 0 0 0 = s.1 6 0 0 0) ∧ (∀ j, j < len → u.1 24 0 0 j = iI (bs j)) ∧ (∀ j, j < m → u.1 24 0 0 (len + j) = iI (bz (m - 1 - j))) ∧ Ag (fun t _ _ => t = 6 ∨ t = 24) s u) := by
        refine lp_rel (fun k q => q.1 = iI ((m : Int) - 1 - k) ∧ (q.2.1 6 0 0 1 = iI ((len + k : Nat) : Int) ∧ q.2.1 6 0 0 0 = s.1 6 0 0 0) ∧ (∀ j, j < len → q.2.1 24 0 0 j = iI (bs j)) ∧ (∀ j, j < k → q.2.1 24 0 0 (len + j) = iI (bz (m - 1 - j))) ∧ Ag (fun t _ _ => t = 6 ∨ t = 24) s q.2) (fun u : Sg => (u.1 6 0 0 1 = iI ((len + m : Nat) : Int) ∧ u.1 6 0 0 0 = s.1 6 0 0 0) ∧ (∀ j, j < len → u.1 24 0 0 j = iI (bs j)) ∧ (∀ j, j < m → u.1 24 0 0 (len + j) = iI (bz (m - 1 - j))) ∧ Ag (fun t _ _ => t = 6 ∨ t = 24) s u) m FU (iI ((m : Int) - 1), s) ⟨by show iI _ = iI _; congr 1; omega, ⟨by rw [s6]; exact t2, rfl⟩, fun j hj => by rw [s24]; exact (t4 j hj).2.1, fun j hj => absurd hj (Nat.not_lt_zero j), Ag.rf⟩ ?_ ?_ (Nat.lt_of_le_of_lt (show m ≤ 4 by omega) (by decide))
        · intro k q hk hI
          obtain ⟨q1, q2⟩ := q
          obtain ⟨rfl, ⟨i1, i0⟩, i2, i3, i4⟩ := hI
          have i1 : q2.1 6 0 0 1 = iI ((len + k : Nat) : Int) := i1
          have i0 : q2.1 6 0 0 0 = s.1 6 0 0 0 := i0
          have i2 : ∀ j, j < len → q2.1 24 0 0 j = iI (bs j) := i2
          have i3 : ∀ j, j < k → q2.1 24 0 0 (len + j) = iI (bz (m - 1 - j)) := i3
          refine ⟨(iI ((m : Int) - 1 - ((k + 1 : Nat) : Int)), upI (upI q2 24 0 0 (len + k) (iI (bz (m - 1 - k)))) 6 0 0 1 (iI ((len + (k + 1) : Nat) : Int))), ?_, rfl, ⟨?_, ?_⟩, ?_, ?_, ?_⟩
          · show b_M_feed_36 a (iI ((m : Int) - 1 - k)) q2 = _
            unfold b_M_feed_36
            rw [if_neg (by rw [iI_lt (by omega) (by omega)]; omega), i1, rd_N (by omega) (by decide), obs, iI_add, show (m : Int) - 1 - k = ((m - 1 - k : Nat) : Int) by omega, (hbz _).1, upI_1, if_neg (fun z => absurd z.1 (by decide)), i1, iI_add, show ((m - 1 - k : Nat) : Int) + -1 = (m : Int) - 1 - ((k + 1 : Nat) : Int) by omega]
            rfl
          · show (upI _ 6 0 0 1 _).1 6 0 0 1 = _
            rw [upI_1, if_pos ⟨rfl, rfl, rfl, rfl⟩]
          · show (upI (upI q2 24 0 0 (len + k) _) 6 0 0 1 _).1 6 0 0 0 = _
            rw [upI_1, if_neg (by decide), upI_1, if_neg (fun z => absurd z.1 (by decide))]
            exact i0
          · intro j hj
            show (upI (upI q2 24 0 0 (len + k) _) 6 0 0 1 _).1 24 0 0 j = _
            rw [upI_1, if_neg (fun z => absurd z.1 (by decide)), upI_1, if_neg (fun z => absurd z.2.2.2 (by omega))]
            exact i2 j hj
          · intro j hj
            show (upI (upI q2 24 0 0 (len + k) _) 6 0 0 1 _).1 24 0 0 (len + j) = _
            rw [upI_1, if_neg (fun z => absurd z.1 (by decide)), upI_1]
            by_cases e : j = k
            · rw [if_pos ⟨rfl, rfl, rfl, by omega⟩, e]
            · rw [if_neg (fun z => absurd z.2.2.2 (by omega))]
              exact i3 j (by omega)
          · exact (Ag.tr i4 (Ag.upI (Or.inr rfl))).tr (Ag.upI (Or.inl rfl))
        · intro q hI
          obtain ⟨q1, q2⟩ := q
          obtain ⟨rfl, i1, i2, i3, i4⟩ := hI
          refine ⟨q2, ?_, i1, i2, i3, i4⟩
          show b_M_feed_36 a (iI ((m : Int) - 1 - m)) q2 = _
          unfold b_M_feed_36
          rw [if_pos (by rw [iI_lt (by omega) (by omega)]; omega)]
      obtain ⟨u, r1, ⟨r2, r0⟩, r3, r4, r5⟩ := hM
      have hag : Ag (fun t _ _ => t = 4 ∨ t = 15 ∨ t = 6 ∨ t = 24) σ u := (p5.mono (fun t i j z => by omega)).tr (r5.mono (fun t i j z => by omega))
      refine ⟨iI ((len + m : Nat) : Int), s, u, ?_, ?_, v, kp, len + m, fun j => if j < len then bs j else bz (m - 1 - (j - len)), (h1.mono (by omega)).ag hag (by simp) (by simp) (by simp) (by simp), ?_, h3.ag hag (by simp) (by simp), ⟨?_, r2, by omega, ?_⟩, h5.ag hag (by simp) (by simp) (by simp) (by simp) (by simp)⟩
      · unfold f_X_feed
        rw [x_within _ _ _ hb (by omega) (by omega), b2s, if_pos hc, if_neg (by decide), t1, iI_sub, if_pos (by rw [iI_le (by omega) (by omega)]; omega), iI_sub, p1, obs, p2]
      · unfold f_M_feed
        rw [m_in1 _ _ _ hb (by omega) (by omega), b2s, if_pos hc, if_neg (by decide), s6, t2, iI_add, if_pos (by rw [iI_le (by omega) (by omega)]; omega), iI_sub, r1, obs, r2]
      · have k := h2.mono (show n ≤ n + 1 by omega)
        unfold IK
        rw [r0, s6, (hag 0 0 0 (by simp)).1, (hag 21 0 0 (by simp)).1]
        exact ⟨k.1, k.2.imp id (fun q => ⟨q.1, q.2.1, q.2.2.1.ag hag (by simp) (by simp) (by simp), q.2.2.2⟩)⟩
      · rw [(r5 4 0 0 (by simp)).1]; exact p2
      · intro j hj
        dsimp only
        rw [(r5 15 0 0 (by simp)).1]
        by_cases e : j < len
        · rw [if_pos e]
          exact ⟨p3 j e, r3 j e, (t4 j e).2.2⟩
        · rw [if_neg e]
          have p := p4 (j - len) (by omega)
          have r := r4 (j - len) (by omega)
          rw [show len + (j - len) = j by omega] at p r
          exact ⟨p, r, (hbz _).2⟩
    · refine both_fo (k := 1) (by decide) h ?_ ?_
      · unfold f_X_feed
        rw [x_within _ _ _ hb (by omega) (by omega), b2s, if_pos hc, if_neg (by decide), t1, iI_sub, if_neg (by rw [iI_le (by omega) (by omega)]; omega), x_found1, b2s]
        rfl
      · unfold f_M_feed
        rw [m_in1 _ _ _ hb (by omega) (by omega), b2s, if_pos hc, if_neg (by decide), show (foS σ 1).1 6 0 0 1 = iI (len : Int) by rw [← t2]; simp [foS, upI_1], iI_add, if_neg (by rw [iI_le (by omega) (by omega)]; omega), m_no1, b2s]
        rfl
  · refine both_fo (k := 0) (by decide) h ?_ ?_
    · unfold f_X_feed
      rw [x_within _ _ _ hb (by omega) (by omega), b2s, if_neg hc, if_pos (by decide), x_found0, b2s]
      rfl
    · unfold f_M_feed
      rw [m_in1 _ _ _ hb (by omega) (by omega), b2s, if_neg hc, if_pos (by decide), m_no0, b2s]
      rfl
