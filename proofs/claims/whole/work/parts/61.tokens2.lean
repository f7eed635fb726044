/-! PURE: the next token, on both sides -/
theorem x_skip {σ : Sg} {len : Nat} {bs : Nat → Int} {q0 p q : Nat} {t : Int} (hT : Tx len bs) (hX : XB σ len bs) (h : TF len bs q0 p q t) (a d : Int32) : lp (fun a => b_Tape_toNextToken_8 a) FU (xst σ a (iI (q0 : Int)) (iI (q0 : Int)) d) = some (xst σ a (iI (p : Int)) (iI (q0 : Int)) d) := by
  obtain ⟨t1, t2, t3, t4, t5, t6, t7⟩ := h
  have hl := hT.1
  have := lp_run (body := fun a => b_Tape_toNextToken_8 a) (fun i => xst σ a (iI ((q0 + i : Nat) : Int)) (iI (q0 : Int)) d) (xst σ a (iI (p : Int)) (iI (q0 : Int)) d) (p - q0) FU ?_ ?_ (Nat.lt_of_le_of_lt (show p - q0 ≤ 120 by omega) (by decide))
  · exact this
  · intro i hi
    show b_Tape_toNextToken_8 (xst σ a (iI ((q0 + i : Nat) : Int)) (iI (q0 : Int)) d) = _
    unfold b_Tape_toNextToken_8
    simp only [xst_0, xst_2, xst_15, xst_u2, hX.1]
    rw [if_neg (by rw [iI_le (by omega) (by omega)]; omega), rd_N (by omega) (by decide), obs, hX.2 _ (by omega), t5 _ (by omega) (by omega), if_pos rfl, iI_add]
    rfl
  · show b_Tape_toNextToken_8 (xst σ a (iI ((q0 + (p - q0) : Nat) : Int)) (iI (q0 : Int)) d) = _
    rw [show q0 + (p - q0) = p by omega]
    unfold b_Tape_toNextToken_8
    simp only [xst_0, xst_2, xst_15, xst_u2, hX.1]
    by_cases e : p = len
    · rw [if_pos (by rw [iI_le (by omega) (by omega)]; omega)]
    · have hb := hT.2 p (by omega)
      rw [if_neg (by rw [iI_le (by omega) (by omega)]; omega), rd_N (by omega) (by decide), obs, hX.2 _ (by omega), if_neg (by rw [iI_eq (by omega) (by omega)]; exact (t4 (by omega)).2)]
theorem x_tok {σ : Sg} {len : Nat} {bs : Nat → Int} {q0 p q : Nat} {t : Int} (hT : Tx len bs) (hX : XB σ len bs) (h : TF len bs q0 p q t) (a b d : Int32) : f_Tape_toNextToken (xst σ a b (iI (q0 : Int)) d) = some ((), xst σ (iI t) (iI (p : Int)) (iI (q : Int)) (iI (xvT bs t p q))) := by
  have hsk := x_skip hT hX h a d
  obtain ⟨t1, t2, t3, t4, t5, t6, t7⟩ := id h
  have hl := hT.1
  have hout : ∀ (y : Int32) (s : Sg), lp (fun a => b_Tape_toNextToken_132 (iI 0) a) FU s = some s := fun _ s => lp_run (body := fun a => b_Tape_toNextToken_132 (iI 0) a) (fun _ => s) s 0 FU (fun i hi => absurd hi (Nat.not_lt_zero i)) (by show b_Tape_toNextToken_132 (iI 0) s = _; unfold b_Tape_toNextToken_132; rw [if_pos rfl]) (by decide)
  unfold f_Tape_toNextToken
  rw [xst_3, xst_u2, hsk, obs]
  unfold j_Tape_toNextToken_46
  simp only [xst_0, xst_2, xst_15, hX.1]
  by_cases e : p = len
  · obtain ⟨r1, r2⟩ := t3 e
    subst r1
    subst r2
    rw [if_pos (by rw [iI_le (by omega) (by omega)]; omega)]
    unfold j_Tape_toNextToken_74 j_Tape_toNextToken_98 j_Tape_toNextToken_124
    simp only [xst_u1, xst_1, xst_2, xst_0, hX.1, iI_add]
    rw [if_neg (by decide), if_neg (by decide), if_pos trivial, hout (iI 0), obs, xst_u3, xst_u4, if_neg (by rw [iI_lt (by omega) (by omega)]; omega)]
    unfold xvT
    rw [if_neg (by decide), e]
  · have hpl : p < len := by omega
    obtain ⟨r1, r2⟩ := t4 hpl
    have hb := hT.2 p hpl
    have hc := clT_rg (bs p)
    rw [if_neg (by rw [iI_le (by omega) (by omega)]; omega), rd_N (by omega) (by decide), obs, hX.2 _ hpl, x_cl hb, b2s, ← r1]
    unfold j_Tape_toNextToken_74
    simp only [xst_u1, xst_1]
    by_cases ht : t = 1 ∨ t = 2
    · obtain ⟨s1, s2, s3, s4⟩ := t6 hpl ht
      have hrow : lp (fun a => b_Tape_toNextToken_132 (iI 1) a) FU (xst σ (iI t) (iI (p : Int)) (iI (p : Int)) (iI 0)) = some (xst σ (iI t) (iI (p : Int)) (iI (q : Int)) (iI (xvT bs t p q))) := by
        have := lp_run (body := fun a => b_Tape_toNextToken_132 (iI 1) a) (fun i => xst σ (iI t) (iI (p : Int)) (iI ((p + i : Nat) : Int)) (iI (if t = 2 then nvN bs p i else 0))) (xst σ (iI t) (iI (p : Int)) (iI (q : Int)) (iI (xvT bs t p q))) (q - p) FU ?_ ?_ (Nat.lt_of_le_of_lt (show q - p ≤ 120 by omega) (by decide))
        · have e0 : (if t = 2 then nvN bs p 0 else 0) = (0 : Int) := by split <;> rfl
          rw [e0] at this
          exact this
        · intro i hi
          show b_Tape_toNextToken_132 (iI 1) (xst σ (iI t) (iI (p : Int)) (iI ((p + i : Nat) : Int)) (iI (if t = 2 then nvN bs p i else 0))) = _
          have hbi := hT.2 (p + i) (by omega)
          unfold b_Tape_toNextToken_132 j_Tape_toNextToken_204
          (repeat first | rw [xst_0] | rw [xst_1] | rw [xst_2] | rw [xst_3] | rw [xst_4] | rw [xst_15])
          rw [if_neg (by decide), hX.1, if_neg (by rw [iI_le (by omega) (by omega)]; omega), rd_N (by omega) (by decide), obs, hX.2 _ (by omega), x_cl hbi, b2s]
          (repeat first | rw [xst_0] | rw [xst_1] | rw [xst_2] | rw [xst_3] | rw [xst_4] | rw [xst_15])
          rw [s3 _ (by omega) (by omega), if_pos rfl]
          by_cases e2 : t = 2
          · have hrg := mvN_rg (bs := bs) (p := p) i (fun j hj => clT_2.mp (by rw [s3 _ (by omega) (by omega)]; exact e2))
            have hn : 0 ≤ nvN bs p i ∧ nvN bs p i ≤ 1000 := by
              rw [hrg.2]
              split <;> omega
            rw [if_pos (by rw [e2]), rd_N (by omega) (by decide), obs, hX.2 _ (by omega), iI_mul, iI_add, iI_sub, if_pos e2, if_pos e2, nvN_succ, xst_u4, xst_3, xst_u3, iI_add]
            by_cases e3 : 10 * nvN bs p i + bs (p + i) - 48 < 1000
            · rw [if_pos e3, if_pos (by rw [iI_lt (by omega) (by omega)]; exact e3)]
              rfl
            · rw [if_neg e3, if_neg (by rw [iI_lt (by omega) (by omega)]; exact e3)]
              rfl
          · rw [if_neg (show ¬ iI t = iI 2 by rw [iI_eq (by omega) (by omega)]; exact e2), if_neg e2, if_neg e2, xst_u3, iI_add]
            rfl
        · show b_Tape_toNextToken_132 (iI 1) (xst σ (iI t) (iI (p : Int)) (iI ((p + (q - p) : Nat) : Int)) (iI (if t = 2 then nvN bs p (q - p) else 0))) = _
          rw [show p + (q - p) = q by omega]
          unfold b_Tape_toNextToken_132
          (repeat first | rw [xst_0] | rw [xst_1] | rw [xst_2] | rw [xst_3] | rw [xst_4] | rw [xst_15])
          rw [hX.1, if_neg (by decide)]
          by_cases e2 : q = len
          · rw [if_pos (by rw [iI_le (by omega) (by omega)]; omega)]
            rfl
          · have hbq := hT.2 q (by omega)
            have hcq := clT_rg (bs q)
            rw [if_neg (by rw [iI_le (by omega) (by omega)]; omega), rd_N (by omega) (by decide), obs, hX.2 _ (by omega), x_cl hbq, b2s]
            (repeat first | rw [xst_0] | rw [xst_1] | rw [xst_2] | rw [xst_3] | rw [xst_4] | rw [xst_15])
            rw [if_neg (show ¬ iI (clT (bs q)) = iI t by rw [iI_eq (by omega) (by omega)]; exact s4 (by omega))]
            rfl
      have h98 : j_Tape_toNextToken_98 (iI 1) (xst σ (iI t) (iI (p : Int)) (iI (q0 : Int)) d) = some ((), xst σ (iI t) (iI (p : Int)) (iI (q : Int)) (iI (xvT bs t p q))) := by
        unfold j_Tape_toNextToken_98 j_Tape_toNextToken_124
        rw [if_neg (by decide), xst_2, xst_u3, xst_u4, hrow, obs]
      rcases ht with e1 | e1
      · rw [if_pos (by rw [e1])]
        exact h98
      · rw [if_neg (by rw [e1]; decide), if_pos (by rw [e1])]
        exact h98
    · have hq := t7 hpl ht
      rw [if_neg (by rw [iI_eq (by omega) (by omega)]; exact fun z => ht (Or.inl z)), if_neg (by rw [iI_eq (by omega) (by omega)]; exact fun z => ht (Or.inr z))]
      unfold j_Tape_toNextToken_98 j_Tape_toNextToken_124
      simp only [xst_2, xst_0, hX.1, iI_add]
      rw [if_pos trivial, hout (iI 0), obs, xst_u3, xst_u4]
      unfold xvT
      rw [if_neg (fun z => ht (Or.inr z)), hq]
      by_cases e2 : p + 1 < len
      · rw [if_pos (by rw [iI_lt (by omega) (by omega)]; omega)]
        rfl
      · rw [if_neg (by rw [iI_lt (by omega) (by omega)]; omega), show len = p + 1 by omega]
theorem m_skip {σ : Sg} {len : Nat} {bs : Nat → Int} {q0 p q : Nat} {t : Int} (hT : Tx len bs) (hX : MB σ len bs) (h : TF len bs q0 p q t) (a : Int32) (V : Int64) : lp (fun a => b_M_nextToken_8 a) FU (mst σ a (iI (q0 : Int)) (iI (q0 : Int)) V) = some (mst σ a (iI (p : Int)) (iI (q0 : Int)) V) := by
  obtain ⟨t1, t2, t3, t4, t5, t6, t7⟩ := h
  have hl := hT.1
  have := lp_run (body := fun a => b_M_nextToken_8 a) (fun i => mst σ a (iI ((q0 + i : Nat) : Int)) (iI (q0 : Int)) V) (mst σ a (iI (p : Int)) (iI (q0 : Int)) V) (p - q0) FU ?_ ?_ (Nat.lt_of_le_of_lt (show p - q0 ≤ 120 by omega) (by decide))
  · exact this
  · intro i hi
    show b_M_nextToken_8 (mst σ a (iI ((q0 + i : Nat) : Int)) (iI (q0 : Int)) V) = _
    unfold b_M_nextToken_8
    simp only [mst_1, mst_3, mst_24, mst_u3, hX.1]
    rw [if_neg (by rw [iI_le (by omega) (by omega)]; omega), rd_N (by omega) (by decide), obs, hX.2 _ (by omega), t5 _ (by omega) (by omega), if_pos rfl, iI_add]
    rfl
  · show b_M_nextToken_8 (mst σ a (iI ((q0 + (p - q0) : Nat) : Int)) (iI (q0 : Int)) V) = _
    rw [show q0 + (p - q0) = p by omega]
    unfold b_M_nextToken_8
    simp only [mst_1, mst_3, mst_24, mst_u3, hX.1]
    by_cases e : p = len
    · rw [if_pos (by rw [iI_le (by omega) (by omega)]; omega)]
    · have hb := hT.2 p (by omega)
      rw [if_neg (by rw [iI_le (by omega) (by omega)]; omega), rd_N (by omega) (by decide), obs, hX.2 _ (by omega), if_neg (by rw [iI_eq (by omega) (by omega)]; exact (t4 (by omega)).2)]
theorem m_tok {σ : Sg} {len : Nat} {bs : Nat → Int} {q0 p q : Nat} {t : Int} (hT : Tx len bs) (hX : MB σ len bs) (h : TF len bs q0 p q t) (a b : Int32) (V : Int64) : f_M_nextToken (mst σ a b (iI (q0 : Int)) V) = some ((), mst σ (iI (mtT bs t p q)) (iI (p : Int)) (iI (q : Int)) (lI (mvT bs t p q))) := by
  have hsk := m_skip hT hX h a V
  obtain ⟨t1, t2, t3, t4, t5, t6, t7⟩ := id h
  have hl := hT.1
  unfold f_M_nextToken
  rw [mst_4, mst_u3, hsk, obs]
  unfold j_M_nextToken_46
  simp only [mst_1, mst_3, mst_u4, mst_uV, hX.1, mst_24]
  by_cases e : p = len
  · obtain ⟨r1, r2⟩ := t3 e
    subst r1
    subst r2
    rw [if_pos (by rw [e]), mst_u2]
    unfold mtT mvT
    rw [if_neg (fun z => absurd z.1 (by decide)), if_neg (by decide), if_neg (by decide)]
  · have hpl : p < len := by omega
    obtain ⟨r1, r2⟩ := t4 hpl
    have hb := hT.2 p hpl
    have hc := clT_rg (bs p)
    rw [if_neg (by rw [iI_eq (by omega) (by omega)]; omega), rd_N (by omega) (by decide), obs, hX.2 _ hpl, m_let hb, b2s]
    (repeat first | rw [mst_1] | rw [mst_3] | rw [mst_24])
    by_cases hw : 97 ≤ bs p ∧ bs p ≤ 122
    · have ht : t = 1 := by rw [r1]; exact clT_1.mpr hw
      obtain ⟨s1, s2, s3, s4⟩ := t6 hpl (Or.inl ht)
      have hrow : lp (fun a => b_M_nextToken_98 a) FU (mst σ (iI 1) (iI (p : Int)) (iI (p : Int)) (lI 0)) = some (mst σ (iI 1) (iI (p : Int)) (iI (q : Int)) (lI (wvN bs p (q - p)))) := by
        have := lp_run (body := fun a => b_M_nextToken_98 a) (fun i => mst σ (iI 1) (iI (p : Int)) (iI ((p + i : Nat) : Int)) (lI (wvN bs p i))) (mst σ (iI 1) (iI (p : Int)) (iI (q : Int)) (lI (wvN bs p (q - p)))) (q - p) FU ?_ ?_ (Nat.lt_of_le_of_lt (show q - p ≤ 120 by omega) (by decide))
        · exact this
        · intro i hi
          show b_M_nextToken_98 (mst σ (iI 1) (iI (p : Int)) (iI ((p + i : Nat) : Int)) (lI (wvN bs p i))) = _
          have hbi := hT.2 (p + i) (by omega)
          have hwi : 97 ≤ bs (p + i) ∧ bs (p + i) ≤ 122 := clT_1.mp (by rw [s3 _ (by omega) (by omega)]; exact ht)
          have hrg := wvN_rg (bs := bs) (p := p) i (fun j hj => clT_1.mp (by rw [s3 _ (by omega) (by omega)]; exact ht))
          unfold b_M_nextToken_98 j_M_nextToken_166
          simp only [mst_1, mst_4, mst_24, hX.1, mst_uV, mst_u4]
          rw [if_neg (by rw [iI_le (by omega) (by omega)]; omega), rd_N (by omega) (by decide), obs, hX.2 _ (by omega), m_let hbi, b2s]
          simp only [mst_1, mst_4, mst_24, hX.1, mst_uV, mst_u4, mst_V]
          rw [if_pos hwi, if_neg (by decide), rd_N (by omega) (by decide), obs, hX.2 _ (by omega), iI_64 (by omega), lI_mul, lI_add, lI_sub, iI_add, wvN_succ]
          by_cases e2 : wvN bs p i ≤ 9999999999999
          · rw [if_pos (by rw [lg_le, lI_to (by omega), lI_to (by omega)]; exact e2), if_pos e2]
            rfl
          · rw [if_neg (by rw [lg_le, lI_to (by omega), lI_to (by omega)]; exact e2), if_neg e2]
            rfl
        · show b_M_nextToken_98 (mst σ (iI 1) (iI (p : Int)) (iI ((p + (q - p) : Nat) : Int)) (lI (wvN bs p (q - p)))) = _
          rw [show p + (q - p) = q by omega]
          unfold b_M_nextToken_98
          simp only [mst_1, mst_4, mst_24, hX.1]
          by_cases e2 : q = len
          · rw [if_pos (by rw [iI_le (by omega) (by omega)]; omega)]
          · have hbq := hT.2 q (by omega)
            rw [if_neg (by rw [iI_le (by omega) (by omega)]; omega), rd_N (by omega) (by decide), obs, hX.2 _ (by omega), m_let hbq, b2s, if_neg (show ¬ (97 ≤ bs q ∧ bs q ≤ 122) from fun z => s4 (by omega) (by rw [ht]; exact clT_1.mpr z)), if_pos rfl]
      rw [if_pos hw, if_neg (by decide), mst_u2, hrow, obs]
      unfold mtT mvT
      rw [ht, if_neg (fun z => absurd z.1 (by decide)), if_pos rfl]
    · rw [if_neg hw, if_pos rfl, rd_N (by omega) (by decide), obs, hX.2 _ hpl, m_dig hb, b2s]
      (repeat first | rw [mst_1] | rw [mst_3] | rw [mst_24])
      by_cases hd : 48 ≤ bs p ∧ bs p ≤ 57
      · have ht : t = 2 := by rw [r1]; exact clT_2.mpr hd
        obtain ⟨s1, s2, s3, s4⟩ := t6 hpl (Or.inr ht)
        have hrow : lp (fun a => b_M_nextToken_197 a) FU (mst σ a (iI (p : Int)) (iI (p : Int)) (lI 0)) = some (mst σ a (iI (p : Int)) (iI (q : Int)) (lI (mvN bs p (q - p)))) := by
          have := lp_run (body := fun a => b_M_nextToken_197 a) (fun i => mst σ a (iI (p : Int)) (iI ((p + i : Nat) : Int)) (lI (mvN bs p i))) (mst σ a (iI (p : Int)) (iI (q : Int)) (lI (mvN bs p (q - p)))) (q - p) FU ?_ ?_ (Nat.lt_of_le_of_lt (show q - p ≤ 120 by omega) (by decide))
          · exact this
          · intro i hi
            show b_M_nextToken_197 (mst σ a (iI (p : Int)) (iI ((p + i : Nat) : Int)) (lI (mvN bs p i))) = _
            have hbi := hT.2 (p + i) (by omega)
            have hwi : 48 ≤ bs (p + i) ∧ bs (p + i) ≤ 57 := clT_2.mp (by rw [s3 _ (by omega) (by omega)]; exact ht)
            have hrg := mvN_rg (bs := bs) (p := p) i (fun j hj => clT_2.mp (by rw [s3 _ (by omega) (by omega)]; exact ht))
            unfold b_M_nextToken_197 j_M_nextToken_265
            simp only [mst_1, mst_4, mst_24, hX.1, mst_uV, mst_u4]
            rw [if_neg (by rw [iI_le (by omega) (by omega)]; omega), rd_N (by omega) (by decide), obs, hX.2 _ (by omega), m_dig hbi, b2s]
            simp only [mst_1, mst_4, mst_24, hX.1, mst_uV, mst_u4, mst_V]
            rw [if_pos hwi, if_neg (by decide), rd_N (by omega) (by decide), obs, hX.2 _ (by omega), iI_64 (by omega), lI_mul, lI_add, lI_sub, iI_add, mvN_succ]
            by_cases e2 : mvN bs p i ≤ 999
            · rw [if_pos (by rw [lg_le, lI_to (by omega), lI_to (by omega)]; exact e2), if_pos e2]
              rfl
            · rw [if_neg (by rw [lg_le, lI_to (by omega), lI_to (by omega)]; exact e2), if_neg e2]
              rfl
          · show b_M_nextToken_197 (mst σ a (iI (p : Int)) (iI ((p + (q - p) : Nat) : Int)) (lI (mvN bs p (q - p)))) = _
            rw [show p + (q - p) = q by omega]
            unfold b_M_nextToken_197
            simp only [mst_1, mst_4, mst_24, hX.1]
            by_cases e2 : q = len
            · rw [if_pos (by rw [iI_le (by omega) (by omega)]; omega)]
            · have hbq := hT.2 q (by omega)
              rw [if_neg (by rw [iI_le (by omega) (by omega)]; omega), rd_N (by omega) (by decide), obs, hX.2 _ (by omega), m_dig hbq, b2s, if_neg (show ¬ (48 ≤ bs q ∧ bs q ≤ 57) from fun z => s4 (by omega) (by rw [ht]; exact clT_2.mpr z)), if_pos rfl]
        have hrg := mvN_rg (bs := bs) (p := p) (q - p) (fun j hj => clT_2.mp (by rw [s3 _ (by omega) (by omega)]; exact ht))
        rw [if_pos hd, if_neg (by decide), hrow, obs]
        unfold j_M_nextToken_281 j_M_nextToken_298
        rw [mst_V, mst_u2, mst_u2, show mvT bs t p q = mvN bs p (q - p) by unfold mvT; rw [ht, if_neg (by decide), if_pos rfl]]
        by_cases e2 : mvN bs p (q - p) ≤ 999
        · rw [if_pos (by rw [lg_le, lI_to (by omega), lI_to (by omega)]; exact e2), show mtT bs t p q = 2 by unfold mtT; rw [ht, if_neg (fun z => absurd z.2 (by omega))]]
        · rw [if_neg (by rw [lg_le, lI_to (by omega), lI_to (by omega)]; exact e2), show mtT bs t p q = 4 by unfold mtT; rw [if_pos ⟨ht, by omega⟩]]
      · have hn1 : ¬ t = 1 := fun z => hw (clT_1.mp (by rw [← r1]; exact z))
        have hn2 : ¬ t = 2 := fun z => hd (clT_2.mp (by rw [← r1]; exact z))
        have hq := t7 hpl (fun z => z.elim hn1 hn2)
        rw [if_neg hd, if_pos rfl, rd_N (by omega) (by decide), obs, hX.2 _ hpl]
        unfold j_M_nextToken_324
        rw [mst_u2, mst_4, mst_u4, mst_u2, mst_4, mst_u4, show mvT bs t p q = 0 by unfold mvT; rw [if_neg hn1, if_neg hn2], show mtT bs t p q = t by unfold mtT; rw [if_neg (fun z => hn2 z.1)], iI_add, hq]
        by_cases e3 : bs p = 59
        · rw [if_pos (by rw [e3]), show t = 3 by rw [r1]; exact clT_3.mpr e3]
          rfl
        · have : ¬ t = 3 := fun z => e3 (clT_3.mp (by rw [← r1]; exact z))
          rw [if_neg (by rw [iI_eq (by omega) (by omega)]; exact e3), show t = 4 by omega]
          rfl
