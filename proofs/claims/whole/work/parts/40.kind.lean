/-! PURE: kind, changes (side by side) -/
/-- the first of the most -/
def bst (D : Nat → Nat) : Nat → Int × Int
  | 0 => (0, -1)
  | k + 1 => if (D k : Int) ≤ (bst D k).2 then bst D k else ((k : Int), (D k : Int))
theorem bst_succ (D : Nat → Nat) (k : Nat) : bst D (k + 1) = if (D k : Int) ≤ (bst D k).2 then bst D k else ((k : Int), (D k : Int)) := rfl
theorem bst_rg {D : Nat → Nat} {B : Nat} (h : ∀ k, D k ≤ B) : ∀ k : Nat, (0 ≤ (bst D k).1 ∧ (bst D k).1 ≤ k) ∧ -1 ≤ (bst D k).2 ∧ (bst D k).2 ≤ B := by
  intro k
  induction k with
  | zero =>
    show (0 ≤ (0 : Int) ∧ (0 : Int) ≤ ((0 : Nat) : Int)) ∧ (-1 : Int) ≤ -1 ∧ (-1 : Int) ≤ (B : Int)
    omega
  | succ k ih =>
    have := h k
    rw [bst_succ]
    by_cases e : (D k : Int) ≤ (bst D k).2
    · rw [if_pos e]; omega
    · rw [if_neg e]
      show (0 ≤ (k : Int) ∧ (k : Int) ≤ _) ∧ -1 ≤ (D k : Int) ∧ (D k : Int) ≤ B
      omega
theorem both_kind (n : Nat) (a : Int32) : Both n (f_X_kind a) (f_M_kind a) := by
  intro σ h
  obtain ⟨za, rfl, ha⟩ := toI a
  obtain ⟨v, kp, len, bs, h1, h2⟩ := id h
  have g1 := h1.2.2.1
  have g9 := h1.2.2.2.1
  by_cases hca : 0 ≤ za ∧ za < v 2
  · obtain ⟨c1, c2, c3⟩ := h1.lt hca
    have hG := g1.rg c1
    have hGk : ∀ k : Nat, k < 6 → GR (up (rug v za.toNat) 0 k) := fun k hk => hG.set (by omega) (by omega) (by omega) (by omega) (by omega) (by omega) (by omega)
    have hex : ∀ k : Nat, ∃ D : Nat, D ≤ 401 ∧ (∀ i, i < D → i < 401 ∧ 0 ≤ rgF v (up (rug v za.toNat) 0 k) i 5) ∧ ¬ (D < 401 ∧ 0 ≤ rgF v (up (rug v za.toNat) 0 k) D 5) := fun k => first_ex (p := fun i => i < 401 ∧ 0 ≤ rgF v (up (rug v za.toNat) 0 k) i 5) 401 (by omega)
    have hD : ∃ D : Nat → Nat, ∀ k : Nat, D k ≤ 401 ∧ (∀ i, i < D k → i < 401 ∧ 0 ≤ rgF v (up (rug v za.toNat) 0 k) i 5) ∧ ¬ (D k < 401 ∧ 0 ≤ rgF v (up (rug v za.toNat) 0 k) (D k) 5) := ⟨fun k => Classical.choose (hex k), fun k => Classical.choose_spec (hex k)⟩
    obtain ⟨D, hD⟩ := hD
    have hr := bst_rg (D := D) (B := 401) (fun k => (hD k).1)
    have hX : ∃ b, lp (fun a => b_X_kind_22 (iI za) a.1 a.2.1 a.2.2.1 a.2.2.2) FU (iI 0, iI (-1), iI 0, σ) = some b ∧ (b.1 = iI (bst D 6).1 ∧ Ag PP σ b.2) := by
      refine lp_rel (fun i a => a.1 = iI (bst D i).1 ∧ a.2.1 = iI (bst D i).2 ∧ a.2.2.1 = iI (i : Int) ∧ Ag PP σ a.2.2.2) (fun b : Int32 × Sg => b.1 = iI (bst D 6).1 ∧ Ag PP σ b.2) 6 FU (iI 0, iI (-1), iI 0, σ) ⟨rfl, rfl, rfl, Ag.rf⟩ ?_ ?_ (by decide)
      · intro k a hk hI
        obtain ⟨a1, a2, a3, a4⟩ := a
        obtain ⟨rfl, rfl, rfl, i4⟩ := hI
        have i4 : Ag PP σ a4 := i4
        obtain ⟨k1, k2, k3⟩ := hD k
        have hrk := hr k
        have hR2 : XR a4 0 za.toNat (rug v za.toNat) := (h1.2.1.2 _ c1).ag i4 (by simp [PP, P1])
        obtain ⟨σ', q1, q2, q3⟩ := x_become (w := 3) (c := 0) hR2 hG (by decide) (Or.inr trivial)
        have q3 : Ag PP a4 σ' := q3
        have q4 : Ag PP σ' (upK σ' 2 3 0 k) := Ag.upK ⟨rfl, rfl, rfl⟩
        have q5 : XR (upK σ' 2 3 0 k) 3 0 (up (rug v za.toNat) 0 k) := by
          obtain ⟨x0, x1, x2, x3, x4, x5, x6⟩ := q2
          refine ⟨?_, x1, x2, x3, x4, x5, x6⟩
          rw [upK_row, up_same]
          rfl
        obtain ⟨σ2, p1, p2⟩ := x_lies (h1.2.1.1.pp ((i4.tr q3).tr q4)) g1 (hGk k hk) q5 k1 (fun i hi => (k2 i hi).2) (fun hl z => k3 ⟨hl, z⟩)
        refine ⟨(iI (bst D (k + 1)).1, iI (bst D (k + 1)).2, iI ((k + 1 : Nat) : Int), σ2), ?_, rfl, rfl, rfl, ((i4.tr q3).tr q4).tr p2⟩
        show b_X_kind_22 (iI za) (iI (bst D k).1) (iI (bst D k).2) (iI (k : Int)) a4 = _
        unfold b_X_kind_22
        rw [if_neg (by rw [iI_le (by omega) (by omega)]; omega), rd_iI (by omega) (by omega) (by decide), obs, q1, b2s, rd_N hk (by decide), obs, p1, b2s, bst_succ, iI_add]
        by_cases e : (D k : Int) ≤ (bst D k).2
        · rw [if_pos (by rw [iI_le (by omega) (by omega)]; exact e), if_pos e]
          rfl
        · rw [if_neg (by rw [iI_le (by omega) (by omega)]; exact e), if_neg e]
          rfl
      · intro a hI
        obtain ⟨a1, a2, a3, a4⟩ := a
        obtain ⟨rfl, rfl, rfl, i4⟩ := hI
        exact ⟨(iI (bst D 6).1, a4), rfl, rfl, i4⟩
    have hM : ∀ τ : Sg, lp (fun a => b_M_kind_21 (iI za) a.1 a.2.1 a.2.2.1 a.2.2.2) FU (iI 0, iI (-1), iI 0, sS τ v) = some (iI (bst D 6).1, aS (sS τ v) v) := by
      intro τ
      refine lp_run (body := fun a => b_M_kind_21 (iI za) a.1 a.2.1 a.2.2.1 a.2.2.2) (fun i => (iI (bst D i).1, iI (bst D i).2, iI (i : Int), if i = 0 then sS τ v else aS (sS τ v) v)) _ 6 FU ?_ rfl (by decide)
      intro k hk
      rw [if_neg (show ¬ k + 1 = 0 by omega)]
      show b_M_kind_21 (iI za) (iI (bst D k).1) (iI (bst D k).2) (iI (k : Int)) (if k = 0 then sS τ v else aS (sS τ v) v) = _
      have e1 : f_M_setsAside (if k = 0 then sS τ v else aS (sS τ v) v) = some ((), aS (sS τ v) v) := by
        by_cases e : k = 0
        · rw [if_pos e]; exact m_aside τ v
        · rw [if_neg e]; exact aside2 τ v
      obtain ⟨k1, k2, k3⟩ := hD k
      have hrk := hr k
      have gs : GS (setRug v za.toNat (up (rug v za.toNat) 0 k)) := g1.set (hGk k hk)
      have e0 : setRug v za.toNat (up (rug v za.toNat) 0 k) 0 = v 0 := setRug_hd (by decide)
      have eg : ∀ d : Nat, rug (goesN (setRug v za.toNat (up (rug v za.toNat) 0 k)) d) za.toNat 5 = rgF v (up (rug v za.toNat) 0 k) d 5 := fun d => goes_rgF (v := v) (r := up (rug v za.toNat) 0 k) gs (c := za.toNat) (by rw [mny_hd (fun i hi => setRug_hd hi)]; exact c1) (fun i hi => setRug_hd hi) (fun f hf => setRug_at hf) d (f := 5) (by decide)
      have ef := m_firstBy' (v := v) gs (by rw [e0]; omega) τ (iI 0) (iI ((za.toNat : Nat) : Int)) (iI 0) (fun d => decide (rug (goesN (setRug v za.toNat (up (rug v za.toNat) 0 k)) d) za.toNat 5 < 0)) (m_fb0 c2 (fun d _ => by rw [eg d]; exact (gr_rgF g1 (hGk k hk) d).2.2.2.2.2.1)) k1 (fun i hi => by
        have := (k2 i hi).2
        rw [decide_eq_false_iff_not, eg i]; omega) (fun hl => by
        rw [decide_eq_true_eq, eg (D k)]
        exact Int.not_le.mp (fun z => k3 ⟨hl, z⟩))
      unfold b_M_kind_21
      rw [if_neg (by rw [iI_le (by omega) (by omega)]; omega), e1, b2s]
      have ep : f_M_puts (iI za) (iI 0) (iI (k : Int)) (aS (sS τ v) v) = some ((), sS (aS τ v) (setRug v za.toNat (up (rug v za.toNat) 0 k))) := by
        rw [asS, c3, m_puts0 c2, up_set (f := 0) (by decide)]
        rfl
      rw [ep, b2s, show iI za = iI ((za.toNat : Nat) : Int) by rw [← c3], ef, b2s, bst_succ]
      unfold j_M_kind_61
      rw [iI_add]
      by_cases e : (D k : Int) ≤ (bst D k).2
      · rw [if_pos (by rw [iI_le (by omega) (by omega)]; exact e), if_pos (by rw [iI_le (by omega) (by omega)]; exact e), if_pos e]
        rfl
      · rw [if_neg (by rw [iI_le (by omega) (by omega)]; exact e), if_neg (by rw [iI_le (by omega) (by omega)]; exact e), if_neg e]
        rfl
    obtain ⟨⟨b, σ1⟩, p1, p2, hag⟩ := hX
    have p2 : b = iI (bst D 6).1 := p2
    subst p2
    have hag : Ag PP σ σ1 := hag
    refine both_q (σ2 := aS σ1 v) h (r := iI (bst D 6).1) (σ1 := σ1) ?_ (hag.mono (fun t i j z => PP_Fr z)) ?_ (Ag.aS (Or.inl rfl))
    · unfold f_X_kind
      rw [x_isRug h1 ha, b2s, if_pos hca, if_neg (by decide), p1, obs]
    · have e : f_M_kind (iI za) (sS σ1 v) = some (iI (bst D 6).1, aS (sS σ1 v) v) := by
        unfold f_M_kind
        rw [m_isC g1 _ ha, b2s, if_pos hca, if_neg (by decide), hM, obs]
      rw [MS.keep h1 (PP_20 hag)] at e
      exact e
  · refine both_fo (k := 0) (by decide) h ?_ ?_
    · unfold f_X_kind
      rw [x_isRug h1 ha, b2s, if_neg hca, if_pos (by decide), x_found0, b2s]
      rfl
    · have e : f_M_kind (iI za) (sS (foS σ 0) v) = some (iI (-1000000001), noS (sS (foS σ 0) v) 0) := by
        unfold f_M_kind
        rw [m_isC g1 _ ha, b2s, if_neg hca, if_pos (by decide), m_no0, b2s]
      rw [h1.fo] at e
      exact e
