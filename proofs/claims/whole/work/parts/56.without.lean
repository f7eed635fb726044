/-! PURE: how many yards a realm has, without some carpets -/
def tpN (v : Ro) (lo : Nat → Bool) (ls : Nat → Nat) (j : Nat) : Nat → Int
  | 0 => -1
  | i + 1 => if 0 ≤ tpN v lo ls j i then tpN v lo ls j i else if lo (ls i) = false ∧ bt (spanL (rug v (ls i))) j = true then (ls i : Int) else -1
theorem tpN_succ (v : Ro) (lo : Nat → Bool) (ls : Nat → Nat) (j i : Nat) : tpN v lo ls j (i + 1) = if 0 ≤ tpN v lo ls j i then tpN v lo ls j i else if lo (ls i) = false ∧ bt (spanL (rug v (ls i))) j = true then (ls i : Int) else -1 := rfl
theorem tpN_spec (v : Ro) (lo : Nat → Bool) (ls : Nat → Nat) (j : Nat) : ∀ i : Nat, (tpN v lo ls j i = -1 ∧ ∀ q, q < i → ¬ (lo (ls q) = false ∧ bt (spanL (rug v (ls q))) j = true)) ∨ ∃ q, q < i ∧ tpN v lo ls j i = (ls q : Int) ∧ (lo (ls q) = false ∧ bt (spanL (rug v (ls q))) j = true) ∧ ∀ q', q' < q → ¬ (lo (ls q') = false ∧ bt (spanL (rug v (ls q'))) j = true) := by
  intro i
  induction i with
  | zero => exact Or.inl ⟨rfl, fun q hq => absurd hq (Nat.not_lt_zero q)⟩
  | succ i ih =>
    rw [tpN_succ]
    rcases ih with ⟨h1, h2⟩ | ⟨q, h1, h2, h3, h4⟩
    · rw [h1, if_neg (by decide)]
      by_cases e : lo (ls i) = false ∧ bt (spanL (rug v (ls i))) j = true
      · rw [if_pos e]
        exact Or.inr ⟨i, by omega, rfl, e, h2⟩
      · rw [if_neg e]
        refine Or.inl ⟨rfl, fun q hq => ?_⟩
        by_cases eq : q = i
        · rw [eq]; exact e
        · exact h2 q (by omega)
    · rw [h2, if_pos (by omega)]
      exact Or.inr ⟨q, by omega, rfl, h3, h4⟩
theorem topN_spec (s : Ro) (y : Int) : ∀ k : Nat, (topN s y k = -1 ∧ ∀ c, c < k → ¬ lies (rug s c) y) ∨ ∃ t, t < k ∧ topN s y k = (t : Int) ∧ lies (rug s t) y ∧ ∀ c, c < k → lies (rug s c) y → rug s c 6 ≤ rug s t 6 := by
  intro k
  induction k with
  | zero => exact Or.inl ⟨rfl, fun c hc => absurd hc (Nat.not_lt_zero c)⟩
  | succ k ih =>
    rw [topN_succ]
    by_cases e : lies (rug s k) y
    · rw [if_pos (show 0 ≤ rug s k 5 ∧ rug s k 5 ≤ y ∧ y < rug s k 5 + reach (rug s k) from e)]
      rcases ih with ⟨h1, h2⟩ | ⟨t, h1, h2, h3, h4⟩
      · rw [h1, if_pos (by decide)]
        refine Or.inr ⟨k, by omega, rfl, e, fun c hc hl => ?_⟩
        by_cases ec : c = k
        · rw [ec]; exact Int.le_refl _
        · exact absurd hl (h2 c (by omega))
      · rw [h2, if_neg (by omega), Int.toNat_natCast]
        by_cases e6 : rug s k 6 < rug s t 6
        · rw [if_pos e6]
          refine Or.inr ⟨t, by omega, rfl, h3, fun c hc hl => ?_⟩
          by_cases ec : c = k
          · rw [ec]; omega
          · exact h4 c (by omega) hl
        · rw [if_neg e6]
          refine Or.inr ⟨k, by omega, rfl, e, fun c hc hl => ?_⟩
          by_cases ec : c = k
          · rw [ec]; exact Int.le_refl _
          · have := h4 c (by omega) hl
            omega
    · rw [if_neg (show ¬ (0 ≤ rug s k 5 ∧ rug s k 5 ≤ y ∧ y < rug s k 5 + reach (rug s k)) from e)]
      rcases ih with ⟨h1, h2⟩ | ⟨t, h1, h2, h3, h4⟩
      · refine Or.inl ⟨h1, fun c hc => ?_⟩
        by_cases ec : c = k
        · rw [ec]; exact e
        · exact h2 c (by omega)
      · refine Or.inr ⟨t, by omega, h2, h3, fun c hc hl => ?_⟩
        by_cases ec : c = k
        · rw [ec] at hl; exact absurd hl e
        · exact h4 c (by omega) hl
/-- a row without some of its carpets -/
def WO (v : Ro) (lo : Nat → Bool) (s' : Ro) : Prop := mny s' = mny v ∧ ∀ c, c < mny v → (0 ≤ rug s' c 5 ↔ 0 ≤ rug v c 5 ∧ lo c = false) ∧ (0 ≤ rug s' c 5 → ∀ f, f < 7 → rug s' c f = rug v c f)
theorem span_lies {r : Ro} (hg : GR r) {j : Nat} (hj : j < 40) : bt (spanL r) j = true ↔ lies r (j : Int) := by
  have hc := cover_rg hg
  have hr := reach_rg hg
  rw [bt_span hg, decide_eq_true_eq]
  unfold lies
  constructor
  · intro ⟨h1, h2, h3⟩
    unfold cover at h3
    rw [if_pos h1] at h3
    refine ⟨h1, h2, ?_⟩
    split at h3 <;> omega
  · intro ⟨h1, h2, h3⟩
    refine ⟨h1, h2, ?_⟩
    unfold cover
    rw [if_pos h1]
    split <;> omega
theorem wo_lies {v s' : Ro} {lo : Nat → Bool} (hw : WO v lo s') {c : Nat} (hc : c < mny v) (y : Int) : lies (rug s' c) y ↔ lo c = false ∧ lies (rug v c) y := by
  obtain ⟨h1, h2⟩ := hw.2 c hc
  constructor
  · intro ⟨a, b, d⟩
    have e := h2 a
    refine ⟨(h1.mp a).2, ?_⟩
    unfold lies
    rw [← e 5 (by decide), ← reach_cong e]
    exact ⟨a, b, d⟩
  · intro ⟨hl, a, b, d⟩
    have o := h1.mpr ⟨a, hl⟩
    have e := h2 o
    unfold lies
    rw [e 5 (by decide), reach_cong e]
    exact ⟨a, b, d⟩
theorem tp_top {σ : Sg} {w : Nat} {v : Ro} (hg : GS v) (hu : UQ v) {L : Nat} {ls : Nat → Nat} (hs : SV σ w v (mny v) L ls) {lo : Nat → Bool} {s' : Ro} (hw : WO v lo s') {j : Nat} (hj : j < 40) : tpN v lo ls j L = top s' (j : Int) := by
  obtain ⟨s1, s2, s3, s4, s5, s6, s7⟩ := hs
  have hlie : ∀ c, c < mny v → (lies (rug s' c) (j : Int) ↔ lo c = false ∧ bt (spanL (rug v c)) j = true) := fun c hc => by
    rw [wo_lies hw hc, span_lies (hg.rg hc) hj]
  unfold top
  rw [hw.1]
  rcases topN_spec s' (j : Int) (mny v) with ⟨t1, t2⟩ | ⟨t, t1, t2, t3, t4⟩
  · rw [t1]
    rcases tpN_spec v lo ls j L with ⟨q1, q2⟩ | ⟨q, q1, q2, q3, q4⟩
    · exact q1
    · have hc := (s4 q q1).1
      exact absurd ((hlie _ hc).mpr q3) (t2 _ hc)
  · rw [t2]
    have tv := (hlie t t1).mp t3
    obtain ⟨p, p1, p2⟩ := s5 t t1 ((hw.2 t t1).1.mp t3.1).1
    rcases tpN_spec v lo ls j L with ⟨q1, q2⟩ | ⟨q, q1, q2, q3, q4⟩
    · exact absurd (by rw [p2]; exact tv) (q2 p p1)
    · have hc := (s4 q q1).1
      have lc := (hlie _ hc).mpr q3
      have le1 := t4 _ hc lc
      have ge : q ≤ p := by
        refine Nat.le_of_not_lt (fun z => q4 p z ?_)
        rw [p2]; exact tv
      rw [q2]
      by_cases e : q = p
      · rw [e, p2]
      · have le2 := s6 q p (by omega) p1
        rw [p2] at le2
        have f1 := (hw.2 t t1).2 t3.1 6 (by decide)
        have f2 := (hw.2 _ hc).2 lc.1 6 (by decide)
        rw [f1, f2] at le1
        have := hu (ls q) t hc t1 ((hw.2 _ hc).1.mp lc.1).1 ((hw.2 t t1).1.mp t3.1).1 (by omega)
        rw [this]
theorem yards_cb {s : Ro} {m : Int} {p : Nat → Bool} : ∀ k : Nat, (∀ j, j < k → p j = decide (whose s (j : Int) = m)) → yardsN s m k = ((cb p k : Nat) : Int) := by
  intro k
  induction k with
  | zero => intro _; rfl
  | succ k ih =>
    intro h
    rw [yardsN_succ, cb_succ, ih (fun j hj => h j (by omega)), h k (by omega)]
    by_cases e : whose s (k : Int) = m
    · rw [if_pos e, if_pos (decide_eq_true e)]; omega
    · rw [if_neg e, if_neg (by rw [decide_eq_false e]; decide)]; omega
theorem yards_cbn {s : Ro} {m : Int} {p : Nat → Bool} : ∀ k : Nat, (∀ j, j < k → p j = decide (¬ whose s (j : Int) = m)) → yardsN s m k = (k : Int) - ((cb p k : Nat) : Int) := by
  intro k
  induction k with
  | zero => intro _; rfl
  | succ k ih =>
    intro h
    rw [yardsN_succ, cb_succ, ih (fun j hj => h j (by omega)), h k (by omega)]
    by_cases e : whose s (k : Int) = m
    · rw [if_pos e, if_neg (by rw [decide_eq_false (fun z => z e)]; decide)]; omega
    · rw [if_neg e, if_pos (decide_eq_true e)]; omega
theorem bt_sight {s x : Int64} {j : Nat} (h : 64 ≤ j → bt s j = false) : bt (s &&& (x ^^^ lI (-1))) j = (bt s j && !bt x j) := by
  rw [bt_and]
  by_cases e : j < 64
  · rw [bt_not x e]
  · rw [h (by omega), Bool.false_and, Bool.false_and]
theorem x_without {σ : Sg} {w : Nat} {v : Ro} (h : XW σ w v) (hg : GS v) (hu : UQ v) {L : Nat} {ls : Nat → Nat} (hs : SV σ w v (mny v) L ls) {lo : Nat → Bool} {x2 : Int32} (hx : ∀ c : Nat, c < 8 → (((x2 >>> (iI (c : Int) &&& 31)) &&& iI 1) = iI 0 ↔ lo c = false)) {s' : Ro} (hw : WO v lo s') {m : Int} (hm : -1 ≤ m ∧ m ≤ 3) : f_World_yardsWithout w (iI m) x2 σ = some (iI (yards s' m), σ) := by
  have hm8 := mny_le hg
  have htp : ∀ j : Nat, j < 40 → tpN v lo ls j L = top s' (j : Int) := fun j hj => tp_top hg hu hs hw hj
  have hspan40 : ∀ c, c < mny v → ∀ j, 40 ≤ j → bt (spanL (rug v c)) j = false := by
    intro c hc j hj
    have := cover_rg (hg.rg hc)
    rw [bt_span (hg.rg hc), decide_eq_false_iff_not]
    omega
  obtain ⟨s1, s2, s3, s4, s5, s6, s7⟩ := id hs
  have htp40 : ∀ i, i ≤ L → ∀ j, 40 ≤ j → tpN v lo ls j i = -1 := by
    intro i hi j hj
    rcases tpN_spec v lo ls j i with ⟨q1, q2⟩ | ⟨q, q1, q2, q3, q4⟩
    · exact q1
    · rw [hspan40 _ (s4 q (by omega)).1 j hj] at q3
      exact absurd q3.2 (by decide)
  have htm : ∀ i j, tpN v lo ls j i < 0 → tpN v lo ls j i = -1 := by
    intro i j hj
    rcases tpN_spec v lo ls j i with ⟨q1, q2⟩ | ⟨q, q1, q2, q3, q4⟩
    · exact q1
    · omega
  have hl : ∃ b, lp (fun a => b_World_yardsWithout_8 w (iI m) x2 a.1 a.2.1 a.2.2.1 a.2.2.2) FU (lI 0, lI 0, iI 0, σ) = some b ∧ ((∀ j, bt b.1 j = decide (0 ≤ tpN v lo ls j L)) ∧ (∀ j, bt b.2.1 j = decide (0 ≤ tpN v lo ls j L ∧ rug v (tpN v lo ls j L).toNat 1 = m)) ∧ b.2.2 = σ) := by
    refine lp_rel (fun i a => (∀ j, bt a.1 j = decide (0 ≤ tpN v lo ls j i)) ∧ (∀ j, bt a.2.1 j = decide (0 ≤ tpN v lo ls j i ∧ rug v (tpN v lo ls j i).toNat 1 = m)) ∧ a.2.2.1 = iI (i : Int) ∧ a.2.2.2 = σ) (fun b : Int64 × Int64 × Sg => (∀ j, bt b.1 j = decide (0 ≤ tpN v lo ls j L)) ∧ (∀ j, bt b.2.1 j = decide (0 ≤ tpN v lo ls j L ∧ rug v (tpN v lo ls j L).toNat 1 = m)) ∧ b.2.2 = σ) L FU _ ⟨fun j => by rw [bt_0]; rfl, fun j => by rw [bt_0]; exact (decide_eq_false (fun z => absurd z.1 (by show ¬ (0 : Int) ≤ -1; decide))).symm, rfl, rfl⟩ ?_ ?_ (Nat.lt_of_le_of_lt (show L ≤ 8 by omega) (by decide))
    · intro i a hi hI
      obtain ⟨a1, a2, a3, a4⟩ := a
      obtain ⟨i1, i2, rfl, rfl⟩ := hI
      have i1 : ∀ j, bt a1 j = decide (0 ≤ tpN v lo ls j i) := i1
      have i2 : ∀ j, bt a2 j = decide (0 ≤ tpN v lo ls j i ∧ rug v (tpN v lo ls j i).toNat 1 = m) := i2
      obtain ⟨c1, c2⟩ := s4 i hi
      have hR := h.2 (ls i) c1
      have hG1 : 0 ≤ rug v (ls i) 1 ∧ rug v (ls i) 1 ≤ 3 := (hg.rg c1).2.1
      have hsg : ∀ j, bt (spanL (rug v (ls i)) &&& (a1 ^^^ lI (-1))) j = (bt (spanL (rug v (ls i))) j && !decide (0 ≤ tpN v lo ls j i)) := fun j => by
        rw [bt_sight (fun hj => hspan40 _ c1 j (by omega)), i1 j]
      by_cases e : lo (ls i) = false
      · have hc1 : ∀ j, bt (a1 ||| (spanL (rug v (ls i)) &&& (a1 ^^^ lI (-1)))) j = decide (0 ≤ tpN v lo ls j (i + 1)) := by
          intro j
          rw [bt_or, hsg, i1 j, tpN_succ]
          by_cases e1 : 0 ≤ tpN v lo ls j i
          · rw [if_pos e1, decide_eq_true e1]
            rfl
          · rw [if_neg e1, decide_eq_false e1]
            cases e2 : bt (spanL (rug v (ls i))) j with
            | true => rw [if_pos ⟨e, rfl⟩, decide_eq_true (show (0 : Int) ≤ (ls i : Int) by omega)]; rfl
            | false => rw [if_neg (fun z => absurd z.2 (by decide))]; rfl
        by_cases er : rug v (ls i) 1 = m
        · refine ⟨(a1 ||| (spanL (rug v (ls i)) &&& (a1 ^^^ lI (-1))), a2 ||| (spanL (rug v (ls i)) &&& (a1 ^^^ lI (-1))), iI ((i + 1 : Nat) : Int), a4), ?_, hc1, fun j => ?_, rfl, rfl⟩
          · show b_World_yardsWithout_8 w (iI m) x2 a1 a2 (iI (i : Int)) a4 = _
            unfold b_World_yardsWithout_8
            rw [s1, if_neg (by rw [iI_le (by omega) (by omega)]; omega), rd_N (by omega) (by decide), obs, s3 i hi, if_pos ((hx (ls i) (by omega)).mpr e), rd_N (by omega) (by decide), obs, obs, hR.2.1, er, if_pos rfl, s7 _ c1 c2, iI_add]
            rfl
          · show bt (a2 ||| (spanL (rug v (ls i)) &&& (a1 ^^^ lI (-1)))) j = _
            rw [bt_or, hsg, i2 j, tpN_succ]
            by_cases e1 : 0 ≤ tpN v lo ls j i
            · rw [if_pos e1, decide_eq_true e1, Bool.not_true, Bool.and_false, Bool.or_false]
            · rw [if_neg e1, decide_eq_false e1, decide_eq_false (fun z => e1 z.1)]
              cases e2 : bt (spanL (rug v (ls i))) j with
              | true =>
                rw [if_pos ⟨e, rfl⟩, decide_eq_true (show (0 : Int) ≤ (ls i : Int) ∧ rug v (ls i : Int).toNat 1 = m from ⟨by omega, by rw [Int.toNat_natCast]; exact er⟩)]
                rfl
              | false =>
                rw [if_neg (fun z => absurd z.2 (by decide)), decide_eq_false (fun z => absurd z.1 (by decide))]
                rfl
        · refine ⟨(a1 ||| (spanL (rug v (ls i)) &&& (a1 ^^^ lI (-1))), a2, iI ((i + 1 : Nat) : Int), a4), ?_, hc1, fun j => ?_, rfl, rfl⟩
          · show b_World_yardsWithout_8 w (iI m) x2 a1 a2 (iI (i : Int)) a4 = _
            unfold b_World_yardsWithout_8
            rw [s1, if_neg (by rw [iI_le (by omega) (by omega)]; omega), rd_N (by omega) (by decide), obs, s3 i hi, if_pos ((hx (ls i) (by omega)).mpr e), rd_N (by omega) (by decide), obs, obs, hR.2.1, if_neg (by rw [iI_eq (by omega) (by omega)]; exact er), s7 _ c1 c2, iI_add]
            rfl
          · show bt a2 j = _
            rw [i2 j, tpN_succ]
            by_cases e1 : 0 ≤ tpN v lo ls j i
            · rw [if_pos e1]
            · rw [if_neg e1, decide_eq_false (fun z => e1 z.1)]
              by_cases e2 : bt (spanL (rug v (ls i))) j = true
              · rw [if_pos ⟨e, e2⟩, decide_eq_false (show ¬ ((0 : Int) ≤ (ls i : Int) ∧ rug v (ls i : Int).toNat 1 = m) from fun z => er (by have := z.2; rw [Int.toNat_natCast] at this; exact this))]
              · rw [if_neg (fun z => e2 z.2), decide_eq_false (fun z => absurd z.1 (by decide))]
      · have et : ∀ j, tpN v lo ls j (i + 1) = tpN v lo ls j i := by
          intro j
          rw [tpN_succ, if_neg (show ¬ (lo (ls i) = false ∧ bt (spanL (rug v (ls i))) j = true) from fun z => e z.1)]
          by_cases e1 : 0 ≤ tpN v lo ls j i
          · rw [if_pos e1]
          · rw [if_neg e1, htm i j (by omega)]
        refine ⟨(a1, a2, iI ((i + 1 : Nat) : Int), a4), ?_, fun j => by rw [et j]; exact i1 j, fun j => by rw [et j]; exact i2 j, rfl, rfl⟩
        show b_World_yardsWithout_8 w (iI m) x2 a1 a2 (iI (i : Int)) a4 = _
        unfold b_World_yardsWithout_8
        rw [s1, if_neg (by rw [iI_le (by omega) (by omega)]; omega), rd_N (by omega) (by decide), obs, s3 i hi, if_neg (fun z => e ((hx (ls i) (by omega)).mp z)), iI_add]
        rfl
    · intro a hI
      obtain ⟨a1, a2, a3, a4⟩ := a
      obtain ⟨i1, i2, rfl, rfl⟩ := hI
      refine ⟨(a1, a2, a4), ?_, i1, i2, rfl⟩
      show b_World_yardsWithout_8 w (iI m) x2 a1 a2 (iI (L : Int)) a4 = _
      unfold b_World_yardsWithout_8
      rw [s1, if_pos (by rw [iI_le (by omega) (by omega)]; omega)]
  obtain ⟨⟨b1, b2', b3⟩, p1, p2, p3, p4⟩ := hl
  have p4 : b3 = σ := p4
  subst p4
  have p2 : ∀ j, bt b1 j = decide (0 ≤ tpN v lo ls j L) := p2
  have p3 : ∀ j, bt b2' j = decide (0 ≤ tpN v lo ls j L ∧ rug v (tpN v lo ls j L).toNat 1 = m) := p3
  have n1 : nn b1 < 1099511627776 := nn_40 (fun j hj => by rw [p2 j, htp40 L (Nat.le_refl _) j hj]; rfl)
  have n2 : nn b2' < 1099511627776 := nn_40 (fun j hj => by rw [p3 j, htp40 L (Nat.le_refl _) j hj]; exact decide_eq_false (fun z => absurd z.1 (by decide)))
  have hwh : ∀ j : Nat, j < 40 → whose s' (j : Int) = if tpN v lo ls j L < 0 then -1 else rug v (tpN v lo ls j L).toNat 1 := by
    intro j hj
    unfold whose
    rw [htp j hj]
    by_cases e : top s' (j : Int) < 0
    · rw [if_pos e, if_pos e]
    · rw [if_neg e, if_neg e]
      have ho := topN_out s' (j : Int) (mny s') (by show 0 ≤ top s' (j : Int); omega)
      have ht := topN_rg s' (j : Int) (mny s')
      have hlt : (top s' (j : Int)).toNat < mny v := by
        rw [← hw.1]
        show (topN s' (j : Int) (mny s')).toNat < mny s'
        have : 0 ≤ topN s' (j : Int) (mny s') := by show 0 ≤ top s' (j : Int); omega
        omega
      exact (hw.2 _ hlt).2 ho 1 (by decide)
  have hrl : ∀ j : Nat, j < 40 → 0 ≤ tpN v lo ls j L → 0 ≤ rug v (tpN v lo ls j L).toNat 1 := by
    intro j hj h0
    rcases tpN_spec v lo ls j L with ⟨q1, q2⟩ | ⟨q, q1, q2, q3, q4⟩
    · rw [q1] at h0; exact absurd h0 (by decide)
    · rw [q2, Int.toNat_natCast]
      exact (hg.rg (s4 q q1).1).2.1.1
  unfold f_World_yardsWithout yards
  rw [p1, obs, x_lbc n1, x_lbc n2, b2s, b2s]
  by_cases em : m = -1
  · rw [if_pos (by rw [em]), iI_sub, yards_cbn (p := fun j => (nn b1).testBit j) 40 (fun j hj => ?_)]
    · rfl
    · show bt b1 j = _
      rw [p2 j, hwh j hj, em]
      by_cases e : tpN v lo ls j L < 0
      · rw [if_pos e, decide_eq_false (by omega), decide_eq_false (fun z => z rfl)]
      · have := hrl j hj (by omega)
        rw [if_neg e, decide_eq_true (show 0 ≤ tpN v lo ls j L by omega), decide_eq_true (show ¬ rug v (tpN v lo ls j L).toNat 1 = -1 by omega)]
  · rw [if_neg (by rw [iI_eq (by omega) (by omega)]; exact em), yards_cb (p := fun j => (nn b2').testBit j) 40 (fun j hj => ?_)]
    show bt b2' j = _
    rw [p3 j, hwh j hj]
    by_cases e : tpN v lo ls j L < 0
    · rw [if_pos e, decide_eq_false (by omega), decide_eq_false (by omega)]
    · rw [if_neg e]
      by_cases e2 : rug v (tpN v lo ls j L).toNat 1 = m
      · rw [decide_eq_true e2, decide_eq_true ⟨by omega, e2⟩]
      · rw [decide_eq_false e2, decide_eq_false (fun z => e2 z.2)]
