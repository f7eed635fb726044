/-! PURE: best (side by side) -/
theorem ageR_from {r : Ro} {w y : Int} (h0 : 0 ≤ r 5) (hy : 0 ≤ y) : (0 ≤ ageR r w 5 ∧ ∀ f, ageR (up r 5 y) w f = up (ageR r w) 5 y f) ∨ (ageR r w 5 < 0 ∧ ∀ f, ageR (up r 5 y) w f = ageR r w f) := by
  have ew : wears (up r 5 y) w = wears r w := rfl
  have e3 : up r 5 y 3 = r 3 := rfl
  have e5 : up r 5 y 5 = y := rfl
  have a1 : ageR r w = up (up r 3 (if r 3 - wears r w < 0 then 0 else r 3 - wears r w)) 5 (if r 3 - wears r w ≤ 0 then -1 else r 5) := by
    unfold ageR
    rw [if_pos h0]
  have a2 : ageR (up r 5 y) w = up (up (up r 5 y) 3 (if r 3 - wears r w < 0 then 0 else r 3 - wears r w)) 5 (if r 3 - wears r w ≤ 0 then -1 else y) := by
    unfold ageR
    rw [if_pos (by rw [e5]; exact hy), ew, e3, e5]
  rw [a1, a2]
  by_cases hq : r 3 - wears r w ≤ 0
  · rw [if_pos hq, if_pos hq]
    refine Or.inr ⟨by rw [up_same]; decide, fun f => ?_⟩
    unfold up
    by_cases e : f = 5
    · rw [if_pos e, if_pos e]
    · rw [if_neg e, if_neg e, if_neg e]
  · rw [if_neg hq, if_neg hq]
    refine Or.inl ⟨by rw [up_same]; exact h0, fun f => ?_⟩
    unfold up
    by_cases e : f = 5
    · rw [if_pos e, if_pos e]
    · rw [if_neg e, if_neg e, if_neg e, if_neg e]
theorem rgF_from {v r r' : Ro} {y : Int} (h0 : 0 ≤ r 5) (hy : 0 ≤ y) (hr : ∀ f, f < 7 → r' f = up r 5 y f) : ∀ n : Nat, (0 ≤ rgF v r n 5 ∧ ∀ f, f < 7 → rgF v r' n f = up (rgF v r n) 5 y f) ∨ (rgF v r n 5 < 0 ∧ ∀ f, f < 7 → rgF v r' n f = rgF v r n f) := by
  intro n
  induction n with
  | zero => exact Or.inl ⟨h0, hr⟩
  | succ n ih =>
    rw [rgF_succ, rgF_succ]
    rcases ih with ⟨i1, i2⟩ | ⟨i1, i2⟩
    · have c := ageR_cong (w := wetAt v n) i2
      rcases ageR_from (w := wetAt v n) i1 hy with ⟨j1, j2⟩ | ⟨j1, j2⟩
      · exact Or.inl ⟨j1, fun f hf => by rw [c f hf, j2 f]⟩
      · exact Or.inr ⟨j1, fun f hf => by rw [c f hf, j2 f]⟩
    · refine Or.inr ⟨Int.not_le.mp (fun z => ?_), ageR_cong i2⟩
      have := (ageR_out z).1
      omega
theorem topN_cong {s s' : Ro} {y : Int} : ∀ k : Nat, (∀ c, c < k → ∀ f, f < 7 → rug s' c f = rug s c f) → topN s' y k = topN s y k := by
  intro k
  induction k with
  | zero => intro _; rfl
  | succ k ih =>
    intro h
    have ht := topN_rg s y k
    rw [topN_succ, topN_succ, ih (fun c hc => h c (by omega)), h k (by omega) 5 (by decide), h k (by omega) 6 (by decide), reach_cong (h k (by omega)), h (topN s y k).toNat (by omega) 6 (by decide)]
theorem whose_cong {s s' : Ro} (hm : mny s' = mny s) (h : ∀ c, c < mny s → ∀ f, f < 7 → rug s' c f = rug s c f) (y : Int) : whose s' y = whose s y := by
  have e : top s' y = top s y := by
    unfold top
    rw [hm]
    exact topN_cong _ h
  have ht := topN_rg s y (mny s)
  unfold whose
  rw [e]
  by_cases h0 : top s y < 0
  · rw [if_pos h0, if_pos h0]
  · rw [if_neg h0, if_neg h0]
    refine h _ ?_ 1 (by decide)
    show (topN s y (mny s)).toNat < mny s
    have : ¬ topN s y (mny s) < 0 := h0
    omega
theorem yards_cong {s s' : Ro} (hm : mny s' = mny s) (h : ∀ c, c < mny s → ∀ f, f < 7 → rug s' c f = rug s c f) (m : Int) : yards s' m = yards s m := by
  have : ∀ k : Nat, yardsN s' m k = yardsN s m k := by
    intro k
    induction k with
    | zero => rfl
    | succ k ih => rw [yardsN_succ, yardsN_succ, ih, whose_cong hm h]
  exact this 40
theorem lay_key {v : Ro} {c n : Nat} (hc : c < mny v) (g0 : GS (lay v c 0)) {y : Int} (gy : GS (lay v c y)) (hy : 0 ≤ y) (m : Int) : (0 ≤ rug (goesN (lay v c 0) n) c 5 → yards (goesN (lay v c y) n) m = yards (setRug (goesN (lay v c 0) n) c (up (rug (goesN (lay v c 0) n) c) 5 y)) m) ∧ (rug (goesN (lay v c 0) n) c 5 < 0 → yards (goesN (lay v c y) n) m = yards (goesN (lay v c 0) n) m) := by
  have hh : ∀ i, i < 10 → lay v c y i = lay v c 0 i := fun i hi => by
    by_cases e : i = 1
    · rw [e, lay_1, lay_1]
    · rw [lay_hd v c y hi e, lay_hd v c 0 hi e]
  have hm0 : mny (goesN (lay v c 0) n) = mny v := by rw [mny_goesN, lay_mny]
  have hmy : mny (goesN (lay v c y) n) = mny v := by rw [mny_goesN, lay_mny]
  have hne : ∀ q, q < mny v → q ≠ c → ∀ f, f < 7 → rug (goesN (lay v c y) n) q f = rug (goesN (lay v c 0) n) q f := fun q hq hqc f hf => by
    rw [goes_rgF (v := lay v c 0) (r := rug v q) gy (c := q) (by rw [lay_mny]; exact hq) hh (fun f hf => lay_ne v y hqc hf) n hf, goes_rgF (v := lay v c 0) (r := rug v q) g0 (c := q) (by rw [lay_mny]; exact hq) (fun i _ => rfl) (fun f hf => lay_ne v 0 hqc hf) n hf]
  have hey : ∀ f, f < 7 → rug (goesN (lay v c y) n) c f = rgF (lay v c 0) (rug (lay v c y) c) n f := fun f hf => goes_rgF (v := lay v c 0) (r := rug (lay v c y) c) gy (c := c) (by rw [lay_mny]; exact hc) hh (fun f _ => rfl) n hf
  have he0 : ∀ f, f < 7 → rug (goesN (lay v c 0) n) c f = rgF (lay v c 0) (rug (lay v c 0) c) n f := fun f hf => goes_rgF (v := lay v c 0) (r := rug (lay v c 0) c) g0 (c := c) (by rw [lay_mny]; exact hc) (fun i _ => rfl) (fun f _ => rfl) n hf
  have hr := rgF_from (v := lay v c 0) (r := rug (lay v c 0) c) (r' := rug (lay v c y) c) (y := y) (by rw [lay_at v c 0 (by decide)]; exact Int.le_refl 0) hy (fun f hf => by
    unfold up
    by_cases e : f = 5
    · subst e; rw [if_pos rfl, lay_at v c y (by decide)]; rfl
    · rw [if_neg e, lay_at v c y hf, lay_at v c 0 hf]
      unfold up
      by_cases e6 : f = 6
      · rw [if_pos e6, if_pos e6]
      · rw [if_neg e6, if_neg e6, if_neg e, if_neg e]) n
  refine ⟨fun ho => ?_, fun ho => ?_⟩
  · refine yards_cong (by rw [hmy, mny_hd (fun i hi => setRug_hd hi), hm0]) (fun q hq f hf => ?_) m
    rw [mny_hd (fun i hi => setRug_hd hi), hm0] at hq
    by_cases e : q = c
    · subst e
      rw [setRug_at hf, hey f hf]
      rcases hr with ⟨r1, r2⟩ | ⟨r1, r2⟩
      · rw [r2 f hf]
        unfold up
        by_cases e5 : f = 5
        · rw [if_pos e5, if_pos e5]
        · rw [if_neg e5, if_neg e5, he0 f hf]
      · rw [he0 5 (by decide)] at ho
        exact absurd ho (by omega)
    · rw [setRug_ne e hf]
      exact hne q hq e f hf
  · refine yards_cong (by rw [hmy, hm0]) (fun q hq f hf => ?_) m
    rw [hm0] at hq
    by_cases e : q = c
    · subst e
      rw [hey f hf, he0 f hf]
      rcases hr with ⟨r1, r2⟩ | ⟨r1, r2⟩
      · rw [he0 5 (by decide)] at ho
        exact absurd ho (by omega)
      · exact r2 f hf
    · exact hne q hq e f hf
theorem bst_const {D : Nat → Nat} {d N : Nat} (h : ∀ k, k < N → D k = d) : ∀ k : Nat, k < N → bst D (k + 1) = (0, (d : Int)) := by
  intro k
  induction k with
  | zero =>
    intro hk
    rw [bst_succ, h 0 hk, if_neg (by show ¬ (d : Int) ≤ -1; omega)]
    rfl
  | succ k ih =>
    intro hk
    rw [bst_succ, h _ hk, ih (by omega), if_pos (Int.le_refl _)]
theorem uq_from {u : Ro} {c : Nat} {y : Int} (h : UQ u) (ho : 0 ≤ rug u c 5) : UQ (setRug u c (up (rug u c) 5 y)) := by
  have hm : mny (setRug u c (up (rug u c) 5 y)) = mny u := mny_hd (fun i hi => setRug_hd hi)
  have key : ∀ q, 0 ≤ rug (setRug u c (up (rug u c) 5 y)) q 5 → 0 ≤ rug u q 5 ∧ rug (setRug u c (up (rug u c) 5 y)) q 6 = rug u q 6 := by
    intro q hq
    by_cases e : q = c
    · subst e
      exact ⟨ho, by rw [setRug_at (by decide), up_ne (by decide)]⟩
    · rw [setRug_ne e (by decide)] at hq
      exact ⟨hq, setRug_ne e (by decide)⟩
  intro a b ha hb oa ob e
  rw [hm] at ha hb
  rw [(key a oa).2, (key b ob).2] at e
  exact h a b ha hb (key a oa).1 (key b ob).1 e
/-- a row that is another but for where one of its carpets lies -/
def FO (t u : Ro) (c : Nat) : Prop := (∀ i, i < 10 → t i = u i) ∧ (∀ q, q ≠ c → ∀ f, f < 7 → rug t q f = rug u q f) ∧ (∀ f, f < 7 → f ≠ 5 → rug t c f = rug u c f) ∧ 0 ≤ rug t c 5
theorem xw_from {σ : Sg} {t u : Ro} {c : Nat} (h : XW σ 2 t) (hf : FO t u c) (hc : c < mny u) (y : Int) : XW (upI σ 2 2 c 5 (iI y)) 2 (setRug u c (up (rug u c) 5 y)) := by
  obtain ⟨e0, e1, e2, ho⟩ := hf
  have ha : Ag (P1 2 2 c) σ (upI σ 2 2 c 5 (iI y)) := Ag.upI ⟨rfl, rfl, rfl⟩
  have hm : mny t = mny u := mny_hd e0
  refine ⟨?_, fun j hj => ?_⟩
  · have hh := h.1.ag ha (by simp [P1]) (by simp [P1])
    unfold XH at hh ⊢
    rw [setRug_hd (by decide), setRug_hd (by decide), setRug_hd (by decide), ← e0 2 (by decide), ← e0 0 (by decide), ← e0 1 (by decide)]
    exact ⟨hh.1, hh.2.1, hh.2.2.1, fun i hi => by rw [setRug_hd (by omega), ← e0 _ (by omega)]; exact hh.2.2.2 i hi⟩
  · rw [mny_hd (fun i hi => setRug_hd hi)] at hj
    by_cases e : j = c
    · subst e
      refine XR.cong (r := up (rug u j) 5 y) ?_ (fun f hf => setRug_at hf)
      obtain ⟨x0, x1, x2, x3, x4, x5, x6⟩ := h.2 j (by rw [hm]; exact hj)
      rw [e2 0 (by decide) (by decide)] at x0
      rw [e2 1 (by decide) (by decide)] at x1
      rw [e2 2 (by decide) (by decide)] at x2
      rw [e2 3 (by decide) (by decide)] at x3
      rw [e2 4 (by decide) (by decide)] at x4
      have x6 := x6 ho
      rw [e2 6 (by decide) (by decide)] at x6
      refine ⟨x0, ?_, ?_, ?_, ?_, ?_, fun q => ?_⟩
      · simp [upI_1, up, x1]
      · simp [upI_1, up, x2]
      · simp [upI_1, up, x3]
      · simp [upI_1, up, x4]
      · simp [upI_1, up]
      · simp [upI_1, up, x6]
    · exact ((h.2 j (by rw [hm]; exact hj)).ag ha (by simp [P1, e])).cong (fun f hf => by rw [setRug_ne e hf, e1 j e f hf])
theorem both_best (n : Nat) (hn : n < 1000) (a b : Int32) : Both n (f_X_best a b) (f_M_best a b) := by
  intro σ h
  obtain ⟨za, rfl, ha⟩ := toI a
  obtain ⟨zb, rfl, hb⟩ := toI b
  obtain ⟨v, kp, len, bs, h1, h2⟩ := id h
  have g1 := h1.2.2.1
  have g9 := h1.2.2.2.1
  have hm8 := mny_le g1
  have hv1 : 0 ≤ v 1 ∧ v 1 < 99998 := by
    have := h1.2.2.2.2.2.1
    have := g1.2.1
    omega
  by_cases hc : (0 ≤ za ∧ za < v 2) ∧ (0 ≤ zb ∧ zb ≤ 60)
  · obtain ⟨hca, hcb⟩ := hc
    obtain ⟨c1, c2, c3⟩ := h1.lt hca
    have hR := h1.2.1.2 _ c1
    have hG3 : 0 ≤ rug v za.toNat 3 ∧ rug v za.toNat 3 ≤ 99 := (g1.rg c1).2.2.2.1
    have hG1 : 0 ≤ rug v za.toNat 1 ∧ rug v za.toNat 1 ≤ 3 := (g1.rg c1).2.1
    have ez : zb = ((zb.toNat : Nat) : Int) := by omega
    by_cases hp : rug v za.toNat 3 = 0
    · refine both_fo (k := 4) (by decide) h ?_ ?_
      · unfold f_X_best
        rw [x_isRug h1 ha, b2s, if_pos hca, if_neg (by decide), x_within _ _ _ hb (by omega) (by omega), b2s, if_pos hcb, if_neg (by decide), rd_iI (by omega) (by omega) (by decide), obs, hR.2.2.2.1, hp, if_pos rfl, x_found4, b2s]
        rfl
      · have e : f_M_best (iI za) (iI zb) (sS (foS σ 4) v) = some (iI (-1000000005), noS (sS (foS σ 4) v) 4) := by
          unfold f_M_best
          rw [m_isC g1 _ ha, b2s, if_pos hca, if_neg (by decide), m_in1 _ _ _ hb (by omega) (by omega), b2s, if_pos hcb, if_neg (by decide), c3, m_get3 c2, b2s, hp, if_pos rfl, m_no4, b2s]
        rw [h1.fo] at e
        exact e
    · have gl : ∀ y : Nat, y < 40 → GV (n + 1) (lay v za.toNat (y : Int)) := fun y hy => gv_lay h1.2.2 hn c1 (by omega)
      have gl0 : GV (n + 1) (lay v za.toNat 0) := gl 0 (by decide)
      have l0 : ∀ y : Int, lay v za.toNat y 0 = v 0 := fun y => lay_hd v _ y (by decide) (by decide)
      obtain ⟨D, hDe⟩ : ∃ D : Nat → Nat, D = fun k : Nat => (yards (goesN (lay v za.toNat (k : Int)) zb.toNat) (rug v za.toNat 1)).toNat := ⟨_, rfl⟩
      have hD : ∀ k : Nat, yards (goesN (lay v za.toNat (k : Int)) zb.toNat) (rug v za.toNat 1) = (D k : Int) ∧ D k ≤ 40 := fun k => by
        have := yards_rg (goesN (lay v za.toNat (k : Int)) zb.toNat) (rug v za.toNat 1)
        rw [hDe]
        dsimp only
        omega
      have hr := bst_rg (D := D) (B := 40) (fun k => (hD k).2)
      obtain ⟨σa, q1, q2, q2', q3⟩ := x_worldBecome (w := 2) h1.2.1 g1 (by decide)
      obtain ⟨σb, r1, r2, r3⟩ := x_layOut q2 hv1 c1 0
      obtain ⟨σc, p1, p2, p3⟩ := x_days r2 gl0.1 (n := zb.toNat) (by rw [l0]; omega) (by omega)
      rw [← ez] at p1
      have gu : GS (goesN (lay v za.toNat 0) zb.toNat) := gl0.1.goesN zb.toNat (by rw [l0]; omega)
      have uu : UQ (goesN (lay v za.toNat 0) zb.toNat) := uq_goes gl0.2.2.1 _
      have mu : mny (goesN (lay v za.toNat 0) zb.toNat) = mny v := by rw [mny_goesN, lay_mny]
      have hag : Ag (PW 2) σ σc := (q3.tr r3).tr p3
      have key : ∀ y : Nat, y < 40 → (0 ≤ rug (goesN (lay v za.toNat 0) zb.toNat) za.toNat 5 → (D y : Int) = yards (setRug (goesN (lay v za.toNat 0) zb.toNat) za.toNat (up (rug (goesN (lay v za.toNat 0) zb.toNat) za.toNat) 5 (y : Int))) (rug v za.toNat 1)) ∧ (rug (goesN (lay v za.toNat 0) zb.toNat) za.toNat 5 < 0 → (D y : Int) = yards (goesN (lay v za.toNat 0) zb.toNat) (rug v za.toNat 1)) := fun y hy => by
        have := lay_key (n := zb.toNat) c1 gl0.1 (gl y hy).1 (show (0 : Int) ≤ (y : Int) by omega) (rug v za.toNat 1)
        rw [(hD y).1] at this
        exact this
      have er1 : rug (goesN (lay v za.toNat 0) zb.toNat) za.toNat 1 = rug v za.toNat 1 := by
        rw [goes_rgF (v := lay v za.toNat 0) (r := rug (lay v za.toNat 0) za.toNat) gl0.1 (by rw [lay_mny]; exact c1) (fun i _ => rfl) (fun f _ => rfl) zb.toNat (by decide)]
        have hk1 : ∀ (r : Ro) (m : Nat), rgF (lay v za.toNat 0) r m 1 = r 1 := by
          intro r m
          induction m with
          | zero => rfl
          | succ m ih =>
            rw [rgF_succ]
            unfold ageR
            split
            · rw [up_ne (by decide), up_ne (by decide), ih]
            · rw [up_ne (by decide), up_ne (by decide), ih]
        rw [hk1, lay_at v _ 0 (by decide)]
        rfl
      have hXf : ∃ σ1, f_X_best (iI za) (iI zb) σ = some (iI (bst D 40).1, σ1) ∧ Ag (PW 2) σ σ1 := by
        by_cases ho : 0 ≤ rug (goesN (lay v za.toNat 0) zb.toNat) za.toNat 5
        · have hl : ∃ b, lp (fun a => b_X_bestYardInTrial_7 2 za.toNat a.1 a.2.1 a.2.2.1 a.2.2.2) FU (iI 0, iI (-1), iI 0, σc) = some b ∧ (b.1 = iI (bst D 40).1 ∧ Ag (PW 2) σc b.2) := by
            refine lp_rel (fun i a => a.1 = iI (bst D i).1 ∧ a.2.1 = iI (bst D i).2 ∧ a.2.2.1 = iI (i : Int) ∧ Ag (PW 2) σc a.2.2.2 ∧ ∃ t, XW a.2.2.2 2 t ∧ FO t (goesN (lay v za.toNat 0) zb.toNat) za.toNat) (fun b : Int32 × Sg => b.1 = iI (bst D 40).1 ∧ Ag (PW 2) σc b.2) 40 FU _ ⟨rfl, rfl, rfl, Ag.rf, goesN (lay v za.toNat 0) zb.toNat, p2, fun i _ => rfl, fun q _ f _ => rfl, fun f _ _ => rfl, ho⟩ ?_ ?_ (by decide)
            · intro y a hy hI
              obtain ⟨a1, a2, a3, a4⟩ := a
              obtain ⟨rfl, rfl, rfl, i4, t, i5, i6⟩ := hI
              have i4 : Ag (PW 2) σc a4 := i4
              have hyr := hr y
              have hDy := hD y
              have gy : GS (setRug (goesN (lay v za.toNat 0) zb.toNat) za.toNat (up (rug (goesN (lay v za.toNat 0) zb.toNat) za.toNat) 5 (y : Int))) := gu.set ((gu.rg (by rw [mu]; exact c1)).set (by omega) (by omega) (by omega) (by omega) (by omega) (by omega) (by omega))
              have hxw := xw_from i5 i6 (by rw [mu]; exact c1) (y : Int)
              obtain ⟨σ2, L, ls, s1, s2, s3, s4⟩ := x_survey hxw gy
              have hyw := x_without s2 gy (uq_from uu ho) s3 (lo := fun _ => false) sh0 (wo_0 _) (m := rug v za.toNat 1) (by omega)
              have e21 : σ2.1 2 2 za.toNat 1 = iI (rug v za.toNat 1) := by
                rw [(s2.2 za.toNat (by rw [mny_hd (fun i hi => setRug_hd hi), mu]; exact c1)).2.1, setRug_at (by decide), up_ne (by decide), er1]
              refine ⟨(iI (bst D (y + 1)).1, iI (bst D (y + 1)).2, iI ((y + 1 : Nat) : Int), σ2), ?_, rfl, rfl, rfl, (i4.tr (Ag.upI ⟨Or.inr (Or.inl rfl), rfl⟩)).tr (s4.mono (fun t i j z => PS_PW z)), _, s2, fun i hi => setRug_hd hi, fun q hq f hf => setRug_ne hq hf, fun f hf h5 => by rw [setRug_at hf, up_ne h5], by rw [setRug_at (by decide), up_same]; omega⟩
              show b_X_bestYardInTrial_7 2 za.toNat (iI (bst D y).1) (iI (bst D y).2) (iI (y : Int)) a4 = _
              unfold b_X_bestYardInTrial_7
              rw [if_neg (by rw [iI_le (by omega) (by omega)]; omega), s1, b2s, e21, hyw, b2s, ← (key y hy).1 ho, bst_succ, iI_add]
              by_cases e : (D y : Int) ≤ (bst D y).2
              · rw [if_pos (by rw [iI_le (by omega) (by omega)]; exact e), if_pos e]
                rfl
              · rw [if_neg (by rw [iI_le (by omega) (by omega)]; exact e), if_neg e]
                rfl
            · intro a hI
              obtain ⟨a1, a2, a3, a4⟩ := a
              obtain ⟨rfl, rfl, rfl, i4, i5⟩ := hI
              exact ⟨(iI (bst D 40).1, a4), rfl, rfl, i4⟩
          obtain ⟨⟨b1, σ1⟩, t1, t2, t3⟩ := hl
          have t2 : b1 = iI (bst D 40).1 := t2
          subst t2
          refine ⟨σ1, ?_, hag.tr t3⟩
          unfold f_X_best f_X_bestYardInTrial
          rw [x_isRug h1 ha, b2s, if_pos hca, if_neg (by decide), x_within _ _ _ hb (by omega) (by omega), b2s, if_pos hcb, if_neg (by decide), rd_iI (by omega) (by omega) (by decide), obs, hR.2.2.2.1, if_neg (by rw [iI_eq (by omega) (by omega)]; exact hp), q1, b2s, obs, show f_World_layOut 2 2 za.toNat (iI 0) σa = some ((), σb) from r1, b2s, p1, b2s, x_isOut (p2.2 _ (by rw [mu]; exact c1)) (gu.rg (by rw [mu]; exact c1)), b2s, if_pos ho, if_neg (by decide), t1, obs, b2s]
        · refine ⟨σc, ?_, hag⟩
          have hd : ∀ k, k < 40 → D k = D 0 := fun k hk => by
            have e1 := (key k hk).2 (by omega)
            have e2 := (key 0 (by decide)).2 (by omega)
            omega
          rw [show (40 : Nat) = 39 + 1 from rfl, bst_const hd 39 (by decide)]
          unfold f_X_best
          rw [x_isRug h1 ha, b2s, if_pos hca, if_neg (by decide), x_within _ _ _ hb (by omega) (by omega), b2s, if_pos hcb, if_neg (by decide), rd_iI (by omega) (by omega) (by decide), obs, hR.2.2.2.1, if_neg (by rw [iI_eq (by omega) (by omega)]; exact hp), q1, b2s, obs, show f_World_layOut 2 2 za.toNat (iI 0) σa = some ((), σb) from r1, b2s, p1, b2s, x_isOut (p2.2 _ (by rw [mu]; exact c1)) (gu.rg (by rw [mu]; exact c1)), b2s, if_neg ho, if_pos rfl]
      have hM : ∀ τ : Sg, lp (fun a => b_M_best_47 (iI ((za.toNat : Nat) : Int)) (iI zb) a.1 a.2.1 a.2.2.1 a.2.2.2) FU (iI 0, iI (-1), iI 0, sS τ v) = some (iI (bst D 40).1, sS (aS τ v) v) := by
        intro τ
        refine lp_run (fun i => (iI (bst D i).1, iI (bst D i).2, iI (i : Int), sS (if i = 0 then τ else aS τ v) v)) _ 40 FU ?_ ?_ (by decide)
        · intro y hy
          show b_M_best_47 (iI ((za.toNat : Nat) : Int)) (iI zb) (iI (bst D y).1) (iI (bst D y).2) (iI (y : Int)) (sS (if y = 0 then τ else aS τ v) v) = _
          have hyr := hr y
          have hDy := hD y
          have e1 : f_M_setsAside (sS (if y = 0 then τ else aS τ v) v) = some ((), sS (aS τ v) v) := by
            rw [m_aside, asS]
            by_cases e : y = 0
            · rw [if_pos e]
            · rw [if_neg e, aS_aS]
          have em := m_hasThen (a := v) (gl y hy).1 τ (m := rug v za.toNat 1) (by omega) (n := zb.toNat) (by rw [l0]; omega) (by omega)
          rw [← ez, hDy.1] at em
          have eg : f_M_get (iI ((za.toNat : Nat) : Int)) (iI 1) (sS (aS τ v) (lay v za.toNat (y : Int))) = some (iI (rug v za.toNat 1), sS (aS τ v) (lay v za.toNat (y : Int))) := by
            rw [m_get1 c2, lay_at v _ _ (by decide)]
            rfl
          unfold b_M_best_47 j_M_best_91
          rw [if_neg (by rw [iI_le (by omega) (by omega)]; omega), e1, b2s, m_rollsOut g1 _ hv1.2 c1, b2s, eg, b2s, em, b2s, bst_succ, iI_add, if_neg (show ¬ y + 1 = 0 by omega)]
          by_cases e : (D y : Int) ≤ (bst D y).2
          · rw [if_pos (by rw [iI_le (by omega) (by omega)]; exact e), if_pos (by rw [iI_le (by omega) (by omega)]; exact e), if_pos e]
            rfl
          · rw [if_neg (by rw [iI_le (by omega) (by omega)]; exact e), if_neg (by rw [iI_le (by omega) (by omega)]; exact e), if_neg e]
            rfl
        · rfl
      obtain ⟨σ1, x1, x2⟩ := hXf
      refine both_q (σ2 := aS σ1 v) h (r := iI (bst D 40).1) (σ1 := σ1) x1 (x2.mono (fun t i j z => PW2_Fr z)) ?_ (Ag.aS (Or.inl rfl))
      have e : f_M_best (iI za) (iI zb) (sS σ1 v) = some (iI (bst D 40).1, sS (aS σ1 v) v) := by
        unfold f_M_best
        rw [m_isC g1 _ ha, b2s, if_pos hca, if_neg (by decide), m_in1 _ _ _ hb (by omega) (by omega), b2s, if_pos hcb, if_neg (by decide), show iI za = iI ((za.toNat : Nat) : Int) by rw [← c3], m_get3 c2, b2s, if_neg (by rw [iI_eq (by omega) (by omega)]; exact hp), hM, obs]
      rw [← asS, MS.keep h1 (PW2_20 x2)] at e
      exact e
  · refine both_fo (k := 0) (by decide) h ?_ ?_
    · unfold f_X_best j_X_best_18
      rw [x_isRug h1 ha, b2s]
      by_cases k1 : 0 ≤ za ∧ za < v 2
      · rw [if_pos k1, if_neg (by decide), x_within _ _ _ hb (by omega) (by omega), b2s, if_neg (fun z => hc ⟨k1, z⟩), if_pos (by decide), x_found0, b2s]
        rfl
      · rw [if_neg k1, if_pos (by decide), x_found0, b2s]
        rfl
    · have e : f_M_best (iI za) (iI zb) (sS (foS σ 0) v) = some (iI (-1000000001), noS (sS (foS σ 0) v) 0) := by
        unfold f_M_best j_M_best_18
        rw [m_isC g1 _ ha, b2s]
        by_cases k1 : 0 ≤ za ∧ za < v 2
        · rw [if_pos k1, if_neg (by decide), m_in1 _ _ _ hb (by omega) (by omega), b2s, if_neg (fun z => hc ⟨k1, z⟩), if_pos (by decide), m_no0, b2s]
        · rw [if_neg k1, if_pos (by decide), m_no0, b2s]
      rw [h1.fo] at e
      exact e
