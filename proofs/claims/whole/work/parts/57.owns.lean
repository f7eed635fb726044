/-! PURE: owns, ownsOn, take (side by side) -/
theorem Ag.no {P : Nat → Nat → Nat → Prop} {a b : Sg} (h : Ag P a b) (h23 : ¬ P 23 0 0) (k : Nat) : Ag P (noS a k) (noS b k) := by
  intro t i j hq
  obtain ⟨e1, e2, e3⟩ := h t i j hq
  refine ⟨?_, e2, e3⟩
  funext q
  show (if t = 23 ∧ i = 0 ∧ j = 0 ∧ q = k then b.1 23 0 0 k + iI 1 else b.1 t i j q) = (if t = 23 ∧ i = 0 ∧ j = 0 ∧ q = k then a.1 23 0 0 k + iI 1 else a.1 t i j q)
  rw [(h 23 0 0 h23).1, e1]
theorem Inv.fz {N k : Nat} (hk : k < 7) {σ1 τ2 : Sg} (h : Inv N σ1) (ha : Ag Fr (foS σ1 k) τ2) : Inv N (noS τ2 k) := (h.fo hk).fr (ha.no (by simp [Fr]) k)
theorem wo_0 (v : Ro) : WO v (fun _ => false) v := ⟨rfl, fun c _ => ⟨⟨fun h => ⟨h, rfl⟩, fun h => h.1⟩, fun _ f _ => rfl⟩⟩
theorem sh0 : ∀ c : Nat, c < 8 → (((iI 0 >>> (iI (c : Int) &&& 31)) &&& iI 1) = iI 0 ↔ false = false) := by decide +kernel
theorem sh1 : ∀ k : Nat, k < 8 → ∀ c : Nat, c < 8 → ((((iI 1 <<< (iI (k : Int) &&& 31)) >>> (iI (c : Int) &&& 31)) &&& iI 1) = iI 0 ↔ decide (c = k) = false) := by decide +kernel
theorem shB : ∀ k : Nat, k < 8 → ∀ m : Nat, m < 256 → ((iI (m : Int) >>> (iI (k : Int) &&& 31)) &&& iI 1) = if m.testBit k = true then iI 1 else iI 0 := by decide +kernel
theorem x_yardsOf {σ : Sg} {w : Nat} {v : Ro} (h : XW σ w v) (hg : GS v) (hu : UQ v) {m : Int} (hm : -1 ≤ m ∧ m ≤ 3) : ∃ σ', f_World_yardsOf w (iI m) σ = some (iI (yards v m), σ') ∧ XW σ' w v ∧ Ag (PS w) σ σ' := by
  obtain ⟨σ', L, ls, q1, q2, q3, q4⟩ := x_survey h hg
  refine ⟨σ', ?_, q2, q4⟩
  unfold f_World_yardsOf
  rw [q1, b2s, x_without q2 hg hu q3 (lo := fun _ => false) sh0 (wo_0 v) hm, b2s]
theorem PS_PW {w t i j : Nat} (h : PS w t i j) : PW w t i j := by
  unfold PS at h
  unfold PW
  omega
theorem PS0_PWl {t i j : Nat} (h : PS 0 t i j) : PWl t i j := by
  unfold PS at h
  unfold PWl
  omega
theorem both_owns (n : Nat) (a : Int32) : Both n (f_X_owns a) (f_M_owns a) := by
  intro σ h
  obtain ⟨za, rfl, ha⟩ := toI a
  obtain ⟨v, kp, len, bs, h1, h2⟩ := id h
  have g1 := h1.2.2.1
  have gu := h1.2.2.2.2.1
  by_cases hca : -1 ≤ za ∧ za ≤ 3
  · obtain ⟨σ1, q1, q2, q3⟩ := x_yardsOf h1.2.1 g1 gu hca
    have e20 : σ1.1 20 = σ.1 20 := by
      funext i j k
      rw [(q3 20 i j (by simp [PS])).1]
    refine ⟨iI (yards v za), σ1, σ1, ?_, ?_, h.wld (q3.mono (fun t i j z => PS0_PWl z)) (fun j hj => by rw [e20]; exact h1.1 j hj) q2 (h1.2.2.mono (by omega))⟩
    · unfold f_X_owns
      rw [x_within _ _ _ ha (by omega) (by omega), b2s, if_pos hca, if_neg (by decide), q1, b2s]
    · have e : f_M_owns (iI za) (sS σ1 v) = some (iI (yards v za), sS σ1 v) := by
        unfold f_M_owns
        rw [m_in1 _ _ _ ha (by omega) (by omega), b2s, if_pos hca, if_neg (by decide), m_yards g1 hca, b2s]
      rw [MS.keep h1 e20] at e
      exact e
  · refine both_fo (k := 0) (by decide) h ?_ ?_
    · unfold f_X_owns
      rw [x_within _ _ _ ha (by omega) (by omega), b2s, if_neg hca, if_pos (by decide), x_found0, b2s]
      rfl
    · unfold f_M_owns
      rw [m_in1 _ _ _ ha (by omega) (by omega), b2s, if_neg hca, if_pos (by decide), m_no0, b2s]
      rfl
theorem m_hasThen {s a : Ro} (h : GS s) (τ : Sg) {m : Int} (hm : -1 ≤ m ∧ m ≤ 3) {n : Nat} (hn : s 0 + n ≤ 20000) (hn' : n < 1000) : f_M_hasThen (iI m) (iI (n : Int)) (sS (aS τ a) s) = some (iI (yards (goesN s n) m), sS (aS τ a) a) := by
  unfold f_M_hasThen
  rw [m_goes h (aS τ a) hn hn', b2s, m_yards (h.goesN n hn) hm, b2s, ← asS, m_back, b2s, asS]
theorem both_ownsOn (n : Nat) (a b : Int32) : Both n (f_X_ownsOn a b) (f_M_ownsOn a b) := by
  intro σ h
  obtain ⟨za, rfl, ha⟩ := toI a
  obtain ⟨zb, rfl, hb⟩ := toI b
  obtain ⟨v, kp, len, bs, h1, h2⟩ := id h
  have g1 := h1.2.2.1
  have g9 := h1.2.2.2.1
  have gu := h1.2.2.2.2.1
  by_cases hc : (-1 ≤ za ∧ za ≤ 3) ∧ (0 ≤ zb ∧ zb ≤ 200)
  · obtain ⟨hca, hcb⟩ := hc
    have ez : zb = ((zb.toNat : Nat) : Int) := by omega
    obtain ⟨σ', q1, q2, q2', q3⟩ := x_worldBecome (w := 2) h1.2.1 g1 (by decide)
    obtain ⟨σ2, p1, p2, p3⟩ := x_days q2 g1 (n := zb.toNat) (by omega) (by omega)
    rw [← ez] at p1
    obtain ⟨σ1, r1, r2, r3⟩ := x_yardsOf p2 (g1.goesN zb.toNat (by omega)) (uq_goes gu _) hca
    have hag : Ag (PW 2) σ σ1 := (q3.tr p3).tr (r3.mono (fun t i j z => PS_PW z))
    refine both_q (σ2 := aS σ1 v) h (r := iI (yards (goesN v zb.toNat) za)) (σ1 := σ1) ?_ (hag.mono (fun t i j z => PW2_Fr z)) ?_ (Ag.aS (Or.inl rfl))
    · unfold f_X_ownsOn
      rw [x_within _ _ _ ha (by omega) (by omega), b2s, if_pos hca, if_neg (by decide), x_within _ _ _ hb (by omega) (by omega), b2s, if_pos hcb, if_neg (by decide), q1, b2s, p1, b2s, r1, b2s]
    · have em := m_hasThen (a := v) g1 σ1 hca (n := zb.toNat) (by omega) (by omega)
      rw [← ez] at em
      have e : f_M_ownsOn (iI za) (iI zb) (sS σ1 v) = some (iI (yards (goesN v zb.toNat) za), sS (aS σ1 v) v) := by
        unfold f_M_ownsOn
        rw [m_in1 _ _ _ ha (by omega) (by omega), b2s, if_pos hca, if_neg (by decide), m_in1 _ _ _ hb (by omega) (by omega), b2s, if_pos hcb, if_neg (by decide), m_aside, b2s, asS, em, b2s]
      rw [← asS, MS.keep h1 (PW2_20 hag)] at e
      exact e
  · refine both_fo (k := 0) (by decide) h ?_ ?_
    · unfold f_X_ownsOn j_X_ownsOn_20
      rw [x_within _ _ _ ha (by omega) (by omega), b2s]
      by_cases h1 : -1 ≤ za ∧ za ≤ 3
      · rw [if_pos h1, if_neg (by decide), x_within _ _ _ hb (by omega) (by omega), b2s, if_neg (fun z => hc ⟨h1, z⟩), if_pos (by decide), x_found0, b2s]
        rfl
      · rw [if_neg h1, if_pos (by decide), x_found0, b2s]
        rfl
    · unfold f_M_ownsOn j_M_ownsOn_20
      rw [m_in1 _ _ _ ha (by omega) (by omega), b2s]
      by_cases h1 : -1 ≤ za ∧ za ≤ 3
      · rw [if_pos h1, if_neg (by decide), m_in1 _ _ _ hb (by omega) (by omega), b2s, if_neg (fun z => hc ⟨h1, z⟩), if_pos (by decide), m_no0, b2s]
        rfl
      · rw [if_neg h1, if_pos (by decide), m_no0, b2s]
        rfl
theorem yards_rg (s : Ro) (m : Int) : 0 ≤ yards s m ∧ yards s m ≤ 40 := yardsN_rg s m 40
theorem accN_bit (p : Nat → Bool) : ∀ n k : Nat, (accN p n).testBit k = (decide (k < n) && p k) := by
  intro n
  induction n with
  | zero => intro k; rw [decide_eq_false (by omega)]; exact Nat.zero_testBit k
  | succ n ih =>
    intro k
    have hlt := accN_lt p n
    rw [accN_succ]
    by_cases e : k = n
    · subst e
      rw [decide_eq_true (by omega)]
      cases hp : p k with
      | true =>
        rw [if_pos rfl, Nat.add_comm, Nat.testBit_two_pow_add_eq, Nat.testBit_lt_two_pow hlt]
        rfl
      | false =>
        rw [if_neg (by decide), Nat.add_zero, Nat.testBit_lt_two_pow hlt]
        rfl
    · by_cases hk : k < n
      · rw [decide_eq_true (show k < n + 1 by omega)]
        have := ih k
        rw [decide_eq_true hk] at this
        split
        · rw [Nat.add_comm, Nat.testBit_two_pow_add_gt hk, this]
        · rw [Nat.add_zero, this]
      · rw [decide_eq_false (show ¬ k < n + 1 by omega)]
        have h2 := accN_lt p (n + 1)
        rw [accN_succ] at h2
        rw [Nat.testBit_lt_two_pow (Nat.lt_of_lt_of_le h2 (Nat.pow_le_pow_right (by decide) (by omega)))]
        rfl
theorem outS_lt {v : Ro} (h : GS v) : outS v < 256 := Nat.lt_of_lt_of_le (accN_lt (outB v) (mny v)) (Nat.pow_le_pow_right (by decide) (mny_le h))
/-- with one of them rolled up -/
def offR (v : Ro) (k : Nat) : Ro := setRug v k (up (rug v k) 5 (-1))
theorem gs_off {v : Ro} (h : GS v) {k : Nat} (hk : k < mny v) : GS (offR v k) := h.set ((h.rg hk).set (by omega) (by omega) (by omega) (by omega) (by omega) (by omega) (by omega))
theorem wo_off {v : Ro} (h : GS v) {k : Nat} (hk : k < mny v) {n : Nat} (hn : v 0 + n ≤ 20000) : WO (goesN v n) (fun c => decide (c = k)) (goesN (offR v k) n) := by
  have hm : mny (offR v k) = mny v := mny_hd (fun i hi => setRug_hd hi)
  refine ⟨by rw [mny_goesN, mny_goesN, hm], fun c hc => ?_⟩
  rw [mny_goesN] at hc
  by_cases e : c = k
  · subst e
    have hno : ¬ 0 ≤ rug (goesN (offR v c) n) c 5 := fun z => by
      have := (goesN_out (offR v c) (c := c) (by rw [hm]; exact hc) n z).1
      unfold offR at this
      rw [setRug_at (by decide), up_same] at this
      exact absurd this (by decide)
    exact ⟨⟨fun z => absurd z hno, fun z => absurd z.2 (by simp)⟩, fun z => absurd z hno⟩
  · have ef : ∀ f, f < 7 → rug (goesN (offR v k) n) c f = rug (goesN v n) c f := fun f hf => by
      rw [goes_rgF (v := v) (r := rug v c) (gs_off h hk) (c := c) (by rw [hm]; exact hc) (fun i hi => setRug_hd hi) (fun f hf => setRug_ne e hf) n hf, goes_rgF (v := v) (r := rug v c) h hc (fun i _ => rfl) (fun f _ => rfl) n hf]
    rw [ef 5 (by decide)]
    exact ⟨⟨fun z => ⟨z, by simp [e]⟩, fun z => z.1⟩, fun _ f hf => ef f hf⟩
def tkN (v : Ro) (D : Nat → Nat) : Nat → Int × Int
  | 0 => (-1, -1)
  | k + 1 => if 0 ≤ rug v k 5 ∧ ¬ (D k : Int) ≤ (tkN v D k).2 then ((k : Int), (D k : Int)) else tkN v D k
theorem tkN_succ (v : Ro) (D : Nat → Nat) (k : Nat) : tkN v D (k + 1) = if 0 ≤ rug v k 5 ∧ ¬ (D k : Int) ≤ (tkN v D k).2 then ((k : Int), (D k : Int)) else tkN v D k := rfl
theorem tkN_rg {v : Ro} {D : Nat → Nat} (h : ∀ k, D k ≤ 40) : ∀ k : Nat, (-1 ≤ (tkN v D k).1 ∧ (tkN v D k).1 ≤ k) ∧ -1 ≤ (tkN v D k).2 ∧ (tkN v D k).2 ≤ 40 := by
  intro k
  induction k with
  | zero =>
    show (-1 ≤ (-1 : Int) ∧ (-1 : Int) ≤ ((0 : Nat) : Int)) ∧ (-1 : Int) ≤ -1 ∧ (-1 : Int) ≤ 40
    omega
  | succ k ih =>
    have := h k
    rw [tkN_succ]
    by_cases e : 0 ≤ rug v k 5 ∧ ¬ (D k : Int) ≤ (tkN v D k).2
    · rw [if_pos e]
      show (-1 ≤ (k : Int) ∧ (k : Int) ≤ _) ∧ -1 ≤ (D k : Int) ∧ (D k : Int) ≤ 40
      omega
    · rw [if_neg e]; omega
theorem both_take (n : Nat) (a b : Int32) : Both n (f_X_take a b) (f_M_take a b) := by
  intro σ h
  obtain ⟨za, rfl, ha⟩ := toI a
  obtain ⟨zb, rfl, hb⟩ := toI b
  obtain ⟨v, kp, len, bs, h1, h2⟩ := id h
  have g1 := h1.2.2.1
  have g9 := h1.2.2.2.1
  have gu := h1.2.2.2.2.1
  have hm8 := mny_le g1
  have hmn := mny_eq g1
  by_cases hc : (0 ≤ za ∧ za ≤ 3) ∧ (0 ≤ zb ∧ zb ≤ 60)
  · obtain ⟨hca, hcb⟩ := hc
    have ez : zb = ((zb.toNat : Nat) : Int) := by omega
    obtain ⟨D, hDe⟩ : ∃ D : Nat → Nat, D = fun k => (yards (goesN (offR v k) zb.toNat) za).toNat := ⟨_, rfl⟩
    have hD : ∀ k, yards (goesN (offR v k) zb.toNat) za = (D k : Int) ∧ D k ≤ 40 := fun k => by
      have := yards_rg (goesN (offR v k) zb.toNat) za
      rw [hDe]
      dsimp only
      omega
    have hr := tkN_rg (v := v) (D := D) (fun k => (hD k).2)
    obtain ⟨σa, q1, q2, q2', q3⟩ := x_worldBecome (w := 2) h1.2.1 g1 (by decide)
    obtain ⟨σb, p1, p2, p3⟩ := x_days q2 g1 (n := zb.toNat) (by omega) (by omega)
    rw [← ez] at p1
    have gn := g1.goesN zb.toNat (by omega)
    obtain ⟨σ1, L, ls, r1, r2, r3, r4⟩ := x_survey p2 gn
    have hag : Ag (PW 2) σ σ1 := (q3.tr p3).tr (r4.mono (fun t i j z => PS_PW z))
    have hW0 : XW σ1 0 v := h1.2.1.ag hag (by simp [PW]) (by simp [PW]) (by simp [PW])
    have hX : lp (fun a => b_X_take_60 (iI za) a.1 a.2.1 a.2.2.1 a.2.2.2) FU (iI (-1), iI (-1), iI 0, σ1) = some (iI (tkN v D (mny v)).1, σ1) := by
      refine lp_run (fun i => (iI (tkN v D i).1, iI (tkN v D i).2, iI (i : Int), σ1)) _ (mny v) FU ?_ ?_ (Nat.lt_of_le_of_lt hm8 (by decide))
      · intro k hk
        show b_X_take_60 (iI za) (iI (tkN v D k).1) (iI (tkN v D k).2) (iI (k : Int)) σ1 = _
        have hrk := hr k
        obtain ⟨d1, d2⟩ := hD k
        have hyw := x_without r2 gn (uq_goes gu _) r3 (sh1 k (by omega)) (wo_off g1 hk (n := zb.toNat) (by omega)) (m := za) (by omega)
        unfold b_X_take_60
        rw [hW0.1.1, if_neg (by rw [iI_le (by omega) (by omega)]; omega), rd_N (by omega) (by decide), obs, x_isOut (hW0.2 k hk) (g1.rg hk), b2s, hyw, b2s, d1, tkN_succ, iI_add]
        by_cases ho : 0 ≤ rug v k 5
        · rw [if_pos ho, if_neg (by decide)]
          by_cases e : (D k : Int) ≤ (tkN v D k).2
          · rw [if_pos (by rw [iI_le (by omega) (by omega)]; exact e), if_neg (fun z => z.2 e)]
            rfl
          · rw [if_neg (by rw [iI_le (by omega) (by omega)]; exact e), if_pos ⟨ho, e⟩]
            rfl
        · rw [if_neg ho, if_pos rfl, if_neg (fun z => ho z.1)]
          rfl
      · show b_X_take_60 (iI za) (iI (tkN v D (mny v)).1) (iI (tkN v D (mny v)).2) (iI (mny v : Int)) σ1 = _
        unfold b_X_take_60
        rw [hW0.1.1, if_pos (by rw [iI_le (by omega) (by omega)]; omega)]
    have hM : ∀ τ : Sg, lp (fun a => b_M_take_39 (iI za) (iI zb) (iI (outS v : Nat)) a.1 a.2.1 a.2.2.1 a.2.2.2) FU (iI (-1), iI (-1), iI 0, sS τ v) = some (iI (tkN v D (mny v)).1, sS (if mny v = 0 then τ else aS τ v) v) := by
      intro τ
      refine lp_run (fun i => (iI (tkN v D i).1, iI (tkN v D i).2, iI (i : Int), sS (if i = 0 then τ else aS τ v) v)) _ (mny v) FU ?_ ?_ (Nat.lt_of_le_of_lt hm8 (by decide))
      · intro k hk
        show b_M_take_39 (iI za) (iI zb) (iI (outS v : Nat)) (iI (tkN v D k).1) (iI (tkN v D k).2) (iI (k : Int)) (sS (if k = 0 then τ else aS τ v) v) = _
        have hrk := hr k
        obtain ⟨d1, d2⟩ := hD k
        have e1 : f_M_setsAside (sS (if k = 0 then τ else aS τ v) v) = some ((), sS (aS τ v) v) := by
          rw [m_aside, asS]
          by_cases e : k = 0
          · rw [if_pos e]
          · rw [if_neg e, aS_aS]
        have e0 : offR v k 0 = v 0 := setRug_hd (by decide)
        have em := m_hasThen (a := v) (gs_off g1 hk) τ (m := za) (by omega) (n := zb.toNat) (by rw [e0]; omega) (by omega)
        rw [← ez] at em
        have eo : (outS v).testBit k = decide (0 ≤ rug v k 5) := by
          unfold outS
          rw [accN_bit, decide_eq_true hk]
          rfl
        unfold b_M_take_39 j_M_take_93 j_M_take_106
        rw [rd_2, obs, sS_at (by decide), if_neg (by rw [iI_le (by omega) (by omega)]; omega), e1, b2s, m_puts5 (by omega), b2s, up_set (by decide)]
        show b2 (f_M_hasThen (iI za) (iI zb) (sS (aS τ v) (offR v k))) _ = _
        rw [em, b2s, d1, shB k (by omega) _ (outS_lt g1), eo, tkN_succ, iI_add, if_neg (show ¬ k + 1 = 0 by omega)]
        by_cases ho : 0 ≤ rug v k 5
        · rw [if_pos (decide_eq_true ho), if_pos rfl]
          by_cases e : (D k : Int) ≤ (tkN v D k).2
          · rw [if_pos (by rw [iI_le (by omega) (by omega)]; exact e), if_pos rfl, if_pos rfl, if_neg (fun z => z.2 e)]
            rfl
          · rw [if_neg (by rw [iI_le (by omega) (by omega)]; exact e), if_neg (by decide), if_neg (by decide), if_pos ⟨ho, e⟩]
            rfl
        · rw [if_neg (by rw [decide_eq_false ho]; decide), if_pos rfl, if_pos rfl, if_neg (fun z => ho z.1)]
          rfl
      · show b_M_take_39 (iI za) (iI zb) (iI (outS v : Nat)) (iI (tkN v D (mny v)).1) (iI (tkN v D (mny v)).2) (iI (mny v : Int)) (sS (if mny v = 0 then τ else aS τ v) v) = _
        unfold b_M_take_39
        rw [rd_2, obs, sS_at (by decide), if_pos (by rw [iI_le (by omega) (by omega)]; omega)]
    have hrN := hr (mny v)
    have hFr : Ag Fr σ σ1 := hag.mono (fun t i j z => PW2_Fr z)
    have hend : ∀ τ : Sg, sS τ v = τ → Ag Fr τ (sS (if mny v = 0 then τ else aS τ v) v) := by
      intro τ hτ
      by_cases e : mny v = 0
      · rw [if_pos e, hτ]; exact Ag.rf
      · rw [if_neg e, ← asS, hτ]; exact Ag.aS (Or.inl rfl)
    by_cases hb0 : 0 ≤ (tkN v D (mny v)).1
    · have k1 : sS σ1 v = σ1 := MS.keep h1 (PW2_20 hag)
      refine both_q (σ2 := sS (if mny v = 0 then σ1 else aS σ1 v) v) h (r := iI (tkN v D (mny v)).1) (σ1 := σ1) ?_ hFr ?_ (hend σ1 k1)
      · unfold f_X_take
        rw [x_within _ _ _ ha (by omega) (by omega), b2s, if_pos hca, if_neg (by decide), x_within _ _ _ hb (by omega) (by omega), b2s, if_pos hcb, if_neg (by decide), q1, b2s, p1, b2s, r1, b2s, hX, obs, if_pos (by rw [iI_le (by omega) (by omega)]; exact hb0)]
      · have e : f_M_take (iI za) (iI zb) (sS σ1 v) = some (iI (tkN v D (mny v)).1, sS (if mny v = 0 then σ1 else aS σ1 v) v) := by
          unfold f_M_take
          rw [m_in1 _ _ _ ha (by omega) (by omega), b2s, if_pos hca, if_neg (by decide), m_in1 _ _ _ hb (by omega) (by omega), b2s, if_pos hcb, if_neg (by decide), m_out g1, b2s, hM, obs, if_pos (by rw [iI_le (by omega) (by omega)]; exact hb0)]
        rw [k1] at e
        exact e
    · have k1 : sS (foS σ1 3) v = foS σ1 3 := MS.keep h1 (by rw [foS_20, PW2_20 hag])
      refine ⟨iI (-1000000004), foS σ1 3, noS (sS (if mny v = 0 then foS σ1 3 else aS (foS σ1 3) v) v) 3, ?_, ?_, ((h.fr hFr).fz (k := 3) (by decide) (hend _ k1)).mono (by omega)⟩
      · unfold f_X_take
        rw [x_within _ _ _ ha (by omega) (by omega), b2s, if_pos hca, if_neg (by decide), x_within _ _ _ hb (by omega) (by omega), b2s, if_pos hcb, if_neg (by decide), q1, b2s, p1, b2s, r1, b2s, hX, obs, if_neg (by rw [iI_le (by omega) (by omega)]; exact hb0), x_found3, b2s]
      · have e : f_M_take (iI za) (iI zb) (sS (foS σ1 3) v) = some (iI (-1000000004), noS (sS (if mny v = 0 then foS σ1 3 else aS (foS σ1 3) v) v) 3) := by
          unfold f_M_take
          rw [m_in1 _ _ _ ha (by omega) (by omega), b2s, if_pos hca, if_neg (by decide), m_in1 _ _ _ hb (by omega) (by omega), b2s, if_pos hcb, if_neg (by decide), m_out g1, b2s, hM, obs, if_neg (by rw [iI_le (by omega) (by omega)]; exact hb0), m_no3, b2s]
        rw [k1] at e
        exact e
  · refine both_fo (k := 0) (by decide) h ?_ ?_
    · unfold f_X_take j_X_take_19
      rw [x_within _ _ _ ha (by omega) (by omega), b2s]
      by_cases h1 : 0 ≤ za ∧ za ≤ 3
      · rw [if_pos h1, if_neg (by decide), x_within _ _ _ hb (by omega) (by omega), b2s, if_neg (fun z => hc ⟨h1, z⟩), if_pos (by decide), x_found0, b2s]
        rfl
      · rw [if_neg h1, if_pos (by decide), x_found0, b2s]
        rfl
    · unfold f_M_take j_M_take_19
      rw [m_in1 _ _ _ ha (by omega) (by omega), b2s]
      by_cases h1 : 0 ≤ za ∧ za ≤ 3
      · rw [if_pos h1, if_neg (by decide), m_in1 _ _ _ hb (by omega) (by omega), b2s, if_neg (fun z => hc ⟨h1, z⟩), if_pos (by decide), m_no0, b2s]
        rfl
      · rw [if_neg h1, if_pos (by decide), m_no0, b2s]
        rfl
