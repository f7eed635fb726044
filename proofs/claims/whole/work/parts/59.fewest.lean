/-! PURE: fewest (side by side) -/
def woN (v : Ro) (lo : Nat → Bool) : Nat → Ro
  | 0 => v
  | k + 1 => if lo k = true then setRug (woN v lo k) k (up (rug (woN v lo k) k) 5 (-1)) else woN v lo k
theorem woN_succ (v : Ro) (lo : Nat → Bool) (k : Nat) : woN v lo (k + 1) = if lo k = true then setRug (woN v lo k) k (up (rug (woN v lo k) k) 5 (-1)) else woN v lo k := rfl
theorem woN_hd (v : Ro) (lo : Nat → Bool) : ∀ (k : Nat) {i : Nat}, i < 10 → woN v lo k i = v i := by
  intro k
  induction k with
  | zero => intro i _; rfl
  | succ k ih =>
    intro i hi
    rw [woN_succ]
    split
    · rw [setRug_hd hi, ih hi]
    · exact ih hi
theorem woN_mny (v : Ro) (lo : Nat → Bool) (k : Nat) : mny (woN v lo k) = mny v := mny_hd (fun _ hi => woN_hd v lo k hi)
theorem woN_rug (v : Ro) (lo : Nat → Bool) : ∀ (k c : Nat) {f : Nat}, f < 7 → rug (woN v lo k) c f = if c < k ∧ lo c = true ∧ f = 5 then -1 else rug v c f := by
  intro k
  induction k with
  | zero => intro c f _; rw [if_neg (fun z => absurd z.1 (Nat.not_lt_zero c))]; rfl
  | succ k ih =>
    intro c f hf
    rw [woN_succ]
    by_cases hl : lo k = true
    · rw [if_pos hl]
      by_cases e : c = k
      · subst e
        rw [setRug_at hf]
        unfold up
        by_cases e5 : f = 5
        · rw [if_pos e5, if_pos ⟨by omega, hl, e5⟩]
        · rw [if_neg e5, if_neg (fun z => e5 z.2.2), ih c hf, if_neg (fun z => e5 z.2.2)]
      · rw [setRug_ne e hf, ih c hf]
        by_cases hc : c < k ∧ lo c = true ∧ f = 5
        · rw [if_pos hc, if_pos ⟨by omega, hc.2⟩]
        · rw [if_neg hc, if_neg (fun z => hc ⟨by omega, z.2⟩)]
    · rw [if_neg hl, ih c hf]
      by_cases hc : c < k ∧ lo c = true ∧ f = 5
      · rw [if_pos hc, if_pos ⟨by omega, hc.2⟩]
      · have hck : ¬ (c < k + 1 ∧ lo c = true ∧ f = 5) := by
          intro z
          have : c ≠ k := fun e => hl (by rw [← e]; exact z.2.1)
          exact hc ⟨by omega, z.2⟩
        rw [if_neg hc, if_neg hck]
theorem gs_wo {v : Ro} (h : GS v) (lo : Nat → Bool) : ∀ k : Nat, k ≤ mny v → GS (woN v lo k) := by
  intro k
  induction k with
  | zero => exact fun _ => h
  | succ k ih =>
    intro hk
    have g := ih (by omega)
    rw [woN_succ]
    split
    · exact g.set ((g.rg (k := k) (by rw [woN_mny]; omega)).set (by omega) (by omega) (by omega) (by omega) (by omega) (by omega) (by omega))
    · exact g
theorem wo_wo (v : Ro) (lo : Nat → Bool) : WO v lo (woN v lo (mny v)) := by
  refine ⟨woN_mny v lo _, fun c hc => ?_⟩
  rw [woN_rug v lo _ c (by decide)]
  cases hl : lo c with
  | true =>
    rw [if_pos ⟨hc, rfl, rfl⟩]
    exact ⟨⟨fun z => absurd z (by decide), fun z => absurd z.2 (by decide)⟩, fun z => absurd z (by decide)⟩
  | false =>
    rw [if_neg (fun z => absurd z.2.1 (by decide))]
    exact ⟨⟨fun z => ⟨z, rfl⟩, fun z => z.1⟩, fun _ f hf => by rw [woN_rug v lo _ c hf, if_neg (fun z => absurd z.2.1 (by rw [hl]; decide))]⟩
theorem m_hasWithout {v : Ro} (h : GS v) (h0 : v 0 ≤ 10000) (τ : Sg) {m : Int} (hm : -1 ≤ m ∧ m ≤ 3) {q : Nat} (hq : q < 256) : f_M_hasWithout (iI m) (iI (q : Int)) (sS τ v) = some (iI (yards (woN v (fun c => q.testBit c) (mny v)) m), sS (aS τ v) v) := by
  have hm8 := mny_le h
  have hmn := mny_eq h
  have hl : lp (fun a => b_M_hasWithout_6 (iI m) (iI (q : Int)) a.1 a.2) FU (iI 0, sS (aS τ v) v) = some (sS (aS τ v) (woN v (fun c => q.testBit c) (mny v))) := by
    refine lp_run (fun i => (iI (i : Int), sS (aS τ v) (woN v (fun c => q.testBit c) i))) _ (mny v) FU ?_ ?_ (Nat.lt_of_le_of_lt hm8 (by decide))
    · intro k hk
      show b_M_hasWithout_6 (iI m) (iI (q : Int)) (iI (k : Int)) (sS (aS τ v) (woN v (fun c => q.testBit c) k)) = _
      unfold b_M_hasWithout_6 j_M_hasWithout_38
      rw [rd_2, obs, sS_at (by decide), woN_hd v _ k (by decide), if_neg (by rw [iI_le (by omega) (by omega)]; omega), shB k (by omega) q hq, woN_succ, iI_add]
      cases hb : q.testBit k with
      | true =>
        rw [if_pos rfl, if_pos rfl, m_puts5 (by omega), b2s, if_pos rfl, up_set (by decide)]
        rfl
      | false =>
        rw [if_neg (show ¬ (if false = true then iI 1 else iI 0) = iI 1 by decide), m_get5 (by omega), b2s, m_puts5 (by omega), b2s, if_neg (by decide), show up (woN v (fun c => q.testBit c) k) (10 + 7 * k + 5) (rug (woN v (fun c => q.testBit c) k) k 5) = woN v (fun c => q.testBit c) k from up_self]
        rfl
    · show b_M_hasWithout_6 (iI m) (iI (q : Int)) (iI (mny v : Int)) (sS (aS τ v) (woN v (fun c => q.testBit c) (mny v))) = _
      unfold b_M_hasWithout_6
      rw [rd_2, obs, sS_at (by decide), woN_hd v _ _ (by decide), if_pos (by rw [iI_le (by omega) (by omega)]; omega)]
  have em := m_hasThen (a := v) (gs_wo h (fun c => q.testBit c) (mny v) (Nat.le_refl _)) τ hm (n := 0) (by rw [woN_hd v _ _ (by decide)]; omega) (by decide)
  have em : f_M_hasThen (iI m) (iI 0) (sS (aS τ v) (woN v (fun c => q.testBit c) (mny v))) = some (iI (yards (woN v (fun c => q.testBit c) (mny v)) m), sS (aS τ v) v) := em
  unfold f_M_hasWithout
  rw [m_aside, b2s, asS, hl, obs, em, b2s]
theorem n32 {k : Nat} (h : k < 4294967296) : (iI (k : Int)).toBitVec.toNat = k := by
  show (BitVec.ofInt 32 (k : Int)).toNat = k
  rw [BitVec.toNat_ofInt]
  omega
theorem sub_le {q o : Nat} (hq : q < 256) (ho : o < 256) (h : (iI (q : Int) &&& (iI (o : Int) ^^^ iI (-1))) = iI 0) : q ≤ o := by
  have h1 := congrArg (fun x : Int32 => x.toBitVec.toNat) h
  rw [Int32.toBitVec_and, BitVec.toNat_and, Int32.toBitVec_xor, BitVec.toNat_xor, n32 (by omega), n32 (by omega), show (iI (-1)).toBitVec.toNat = 2 ^ 32 - 1 from rfl, show (iI 0).toBitVec.toNat = 0 from rfl] at h1
  have h2 : q &&& o = q := by
    apply Nat.eq_of_testBit_eq
    intro j
    rw [Nat.testBit_and]
    by_cases hj : j < 32
    · have h3 := congrArg (fun x : Nat => x.testBit j) h1
      rw [Nat.testBit_and, Nat.testBit_xor, Nat.testBit_two_pow_sub_one, decide_eq_true hj, Nat.zero_testBit] at h3
      revert h3
      cases q.testBit j <;> cases o.testBit j <;> decide
    · have h4 : q.testBit j = false := Nat.testBit_lt_two_pow (Nat.lt_of_lt_of_le hq (show 2 ^ 8 ≤ 2 ^ j from Nat.pow_le_pow_right (by decide) (by omega)))
      rw [h4, Bool.false_and]
  rw [← h2]
  exact Nat.and_le_right
theorem bc9 : ∀ m : Fin 256, ¬ (iI 9 ≤ bcX (iI ((m.val : Nat) : Int))) := by decide +kernel
def fwN (W : Nat → Int) (o : Nat) (t : Int) : Nat → Int
  | 0 => -1
  | q + 1 => if (iI (q : Int) &&& (iI (o : Int) ^^^ iI (-1))) = iI 0 ∧ (fwN W o t q < 0 ∨ ¬ bcX (iI (fwN W o t q)) ≤ bcX (iI (q : Int))) ∧ t ≤ W q then (q : Int) else fwN W o t q
theorem fwN_succ (W : Nat → Int) (o : Nat) (t : Int) (q : Nat) : fwN W o t (q + 1) = if (iI (q : Int) &&& (iI (o : Int) ^^^ iI (-1))) = iI 0 ∧ (fwN W o t q < 0 ∨ ¬ bcX (iI (fwN W o t q)) ≤ bcX (iI (q : Int))) ∧ t ≤ W q then (q : Int) else fwN W o t q := rfl
theorem fwN_rg (W : Nat → Int) (o : Nat) (t : Int) : ∀ q : Nat, -1 ≤ fwN W o t q ∧ fwN W o t q < q := by
  intro q
  induction q with
  | zero => exact (show (-1 : Int) ≤ -1 ∧ (-1 : Int) < ((0 : Nat) : Int) by decide)
  | succ q ih =>
    rw [fwN_succ]
    split <;> omega
theorem fwN_far (W : Nat → Int) {o : Nat} (ho : o < 256) (t : Int) : ∀ k : Nat, o + 1 + k ≤ 256 → fwN W o t (o + 1 + k) = fwN W o t (o + 1) := by
  intro k
  induction k with
  | zero => intro _; rfl
  | succ k ih =>
    intro hk
    show fwN W o t (o + 1 + k + 1) = _
    rw [fwN_succ, if_neg (fun z => absurd (sub_le (q := o + 1 + k) (by omega) ho z.1) (by omega)), ih (by omega)]
theorem both_fewest (n : Nat) (a b : Int32) : Both n (f_X_fewest a b) (f_M_fewest a b) := by
  intro σ h
  obtain ⟨za, rfl, ha⟩ := toI a
  obtain ⟨zb, rfl, hb⟩ := toI b
  obtain ⟨v, kp, len, bs, h1, h2⟩ := id h
  have g1 := h1.2.2.1
  have g9 := h1.2.2.2.1
  have gu := h1.2.2.2.2.1
  have ho := outS_lt g1
  by_cases hc : (0 ≤ za ∧ za ≤ 3) ∧ (0 ≤ zb ∧ zb ≤ 40)
  · obtain ⟨hca, hcb⟩ := hc
    obtain ⟨W, hWe⟩ : ∃ W : Nat → Int, W = fun q : Nat => yards (woN v (fun c => q.testBit c) (mny v)) za := ⟨_, rfl⟩
    have hW : ∀ q : Nat, yards (woN v (fun c => q.testBit c) (mny v)) za = W q ∧ 0 ≤ W q ∧ W q ≤ 40 := fun q => by
      have := yards_rg (woN v (fun c => q.testBit c) (mny v)) za
      rw [hWe]
      exact ⟨rfl, this⟩
    have hr := fwN_rg W (outS v) zb
    obtain ⟨σ1, L, ls, r1, r2, r3, r4⟩ := x_survey h1.2.1 g1
    have e20 : σ1.1 20 = σ.1 20 := by
      funext i j k
      rw [(r4 20 i j (by simp [PS])).1]
    have hI1 : Inv (n + 1) σ1 := h.wld (r4.mono (fun t i j z => PS0_PWl z)) (fun j hj => by rw [e20]; exact h1.1 j hj) r2 (h1.2.2.mono (by omega))
    have hX : lp (fun a => b_X_fewest_51 (iI za) (iI zb) (iI (outS v : Nat)) a.1 a.2.1 a.2.2.1 a.2.2.2) FU (iI (-1), iI 9, iI 0, σ1) = some (iI (fwN W (outS v) zb 256), σ1) := by
      refine lp_run (fun q => (iI (fwN W (outS v) zb q), if fwN W (outS v) zb q < 0 then iI 9 else bcX (iI (fwN W (outS v) zb q)), iI (q : Int), σ1)) _ 256 FU ?_ ?_ (by decide)
      · intro q hq
        show b_X_fewest_51 (iI za) (iI zb) (iI (outS v : Nat)) (iI (fwN W (outS v) zb q)) (if fwN W (outS v) zb q < 0 then iI 9 else bcX (iI (fwN W (outS v) zb q))) (iI (q : Int)) σ1 = some (Sum.inl (iI (fwN W (outS v) zb (q + 1)), (if fwN W (outS v) zb (q + 1) < 0 then iI 9 else bcX (iI (fwN W (outS v) zb (q + 1)))), iI ((q + 1 : Nat) : Int), σ1))
        have hrq := hr q
        obtain ⟨w1, w2⟩ := hW q
        have hyw := x_without r2 g1 gu r3 (lo := fun c => q.testBit c) (x2 := iI (q : Int)) (fun c hc => by
          rw [shB c hc q hq]
          cases q.testBit c <;> decide) (wo_wo v _) (m := za) (by omega)
        unfold b_X_fewest_51 j_X_fewest_73
        rw [if_neg (by rw [iI_le (by omega) (by omega)]; omega), iI_add]
        by_cases e1 : (iI (q : Int) &&& (iI (outS v : Nat) ^^^ iI (-1))) = iI 0
        · rw [if_pos e1, if_neg (by decide), x_bc, b2s, hyw, b2s, x_bc, b2s, w1]
          have hcmp : ((if fwN W (outS v) zb q < 0 then iI 9 else bcX (iI (fwN W (outS v) zb q))) ≤ bcX (iI (q : Int))) ↔ ¬ (fwN W (outS v) zb q < 0 ∨ ¬ bcX (iI (fwN W (outS v) zb q)) ≤ bcX (iI (q : Int))) := by
            by_cases e0 : fwN W (outS v) zb q < 0
            · rw [if_pos e0]
              exact ⟨fun z => absurd z (bc9 ⟨q, hq⟩), fun z => absurd (Or.inl e0) z⟩
            · rw [if_neg e0]
              exact ⟨fun z y => y.elim e0 (fun x => x z), fun z => Classical.byContradiction (fun y => z (Or.inr y))⟩
          by_cases e2 : fwN W (outS v) zb q < 0 ∨ ¬ bcX (iI (fwN W (outS v) zb q)) ≤ bcX (iI (q : Int))
          · rw [if_neg (fun z => hcmp.mp z e2)]
            by_cases e3 : zb ≤ W q
            · rw [if_neg (by rw [iI_lt (by omega) (by omega)]; omega), show fwN W (outS v) zb (q + 1) = (q : Int) by rw [fwN_succ, if_pos ⟨e1, e2, e3⟩], if_neg (show ¬ (q : Int) < 0 by omega)]
              rfl
            · rw [if_pos (by rw [iI_lt (by omega) (by omega)]; omega), show fwN W (outS v) zb (q + 1) = fwN W (outS v) zb q by rw [fwN_succ, if_neg (fun z => e3 z.2.2)]]
              rfl
          · rw [if_pos (hcmp.mpr e2), show fwN W (outS v) zb (q + 1) = fwN W (outS v) zb q by rw [fwN_succ, if_neg (fun z => e2 z.2.1)]]
            rfl
        · rw [if_neg e1, if_pos rfl, show fwN W (outS v) zb (q + 1) = fwN W (outS v) zb q by rw [fwN_succ, if_neg (fun z => e1 z.1)]]
          rfl
      · show b_X_fewest_51 (iI za) (iI zb) (iI (outS v : Nat)) (iI (fwN W (outS v) zb 256)) _ (iI ((256 : Nat) : Int)) σ1 = _
        unfold b_X_fewest_51
        rw [if_pos (by decide)]
    have hM : ∀ τ : Sg, ∃ b, lp (fun a => b_M_fewest_36 (iI za) (iI zb) (iI (outS v : Nat)) a.1 a.2.1 a.2.2) FU (iI (-1), iI 0, sS τ v) = some b ∧ (b.1 = iI (fwN W (outS v) zb 256) ∧ ∃ τ', b.2 = sS τ' v ∧ (τ' = τ ∨ τ' = aS τ v)) := by
      intro τ
      have hfar : fwN W (outS v) zb 256 = fwN W (outS v) zb (outS v + 1) := by
        have := fwN_far W ho zb (255 - outS v) (by omega)
        rw [show outS v + 1 + (255 - outS v) = 256 by omega] at this
        exact this
      rw [hfar]
      refine lp_rel (fun q a => a.1 = iI (fwN W (outS v) zb q) ∧ a.2.1 = iI (q : Int) ∧ ∃ τ', a.2.2 = sS τ' v ∧ (τ' = τ ∨ τ' = aS τ v)) (fun b : Int32 × Sg => b.1 = iI (fwN W (outS v) zb (outS v + 1)) ∧ ∃ τ', b.2 = sS τ' v ∧ (τ' = τ ∨ τ' = aS τ v)) (outS v + 1) FU _ ⟨rfl, rfl, τ, rfl, Or.inl rfl⟩ ?_ ?_ (Nat.lt_of_le_of_lt (show outS v + 1 ≤ 256 by omega) (by decide))
      · intro q a hq hI
        obtain ⟨a1, a2, a3⟩ := a
        obtain ⟨rfl, rfl, τ', i3, i4⟩ := hI
        have i3 : a3 = sS τ' v := i3
        subst i3
        have hrq := hr q
        obtain ⟨w1, w2⟩ := hW q
        have hq256 : q < 256 := by omega
        have ew := m_hasWithout g1 (by omega) τ' (m := za) (by omega) hq256
        rw [w1] at ew
        have hτ : aS τ' v = aS τ v := by
          rcases i4 with e | e
          · rw [e]
          · rw [e, aS_aS]
        rw [hτ] at ew
        have hno : fwN W (outS v) zb (q + 1) = fwN W (outS v) zb q → b_M_fewest_36 (iI za) (iI zb) (iI (outS v : Nat)) (iI (fwN W (outS v) zb q)) (iI (q : Int)) (sS τ' v) = j_M_fewest_74 (iI za) (iI zb) (iI (fwN W (outS v) zb q)) (iI (outS v : Nat)) (iI (q : Int)) (iI 0) (sS τ' v) → ∃ a', b_M_fewest_36 (iI za) (iI zb) (iI (outS v : Nat)) (iI (fwN W (outS v) zb q)) (iI (q : Int)) (sS τ' v) = some (.inl a') ∧ (a'.1 = iI (fwN W (outS v) zb (q + 1)) ∧ a'.2.1 = iI ((q + 1 : Nat) : Int) ∧ ∃ τ'', a'.2.2 = sS τ'' v ∧ (τ'' = τ ∨ τ'' = aS τ v)) := by
          intro e1 e2
          refine ⟨(iI (fwN W (outS v) zb q), iI ((q + 1 : Nat) : Int), sS τ' v), ?_, by rw [e1], rfl, τ', rfl, i4⟩
          rw [e2]
          unfold j_M_fewest_74
          rw [if_pos rfl, iI_add]
          rfl
        show ∃ a', b_M_fewest_36 (iI za) (iI zb) (iI (outS v : Nat)) (iI (fwN W (outS v) zb q)) (iI (q : Int)) (sS τ' v) = some (.inl a') ∧ _
        by_cases e1 : (iI (q : Int) &&& (iI (outS v : Nat) ^^^ iI (-1))) = iI 0
        · by_cases e2 : fwN W (outS v) zb q < 0 ∨ ¬ bcX (iI (fwN W (outS v) zb q)) ≤ bcX (iI (q : Int))
          · have hb1 : b_M_fewest_36 (iI za) (iI zb) (iI (outS v : Nat)) (iI (fwN W (outS v) zb q)) (iI (q : Int)) (sS τ' v) = j_M_fewest_74 (iI za) (iI zb) (iI (fwN W (outS v) zb q)) (iI (outS v : Nat)) (iI (q : Int)) (iI 1) (sS τ' v) := by
              unfold b_M_fewest_36
              rw [if_neg (by rw [iI_lt (by omega) (by omega)]; omega), if_pos e1]
              by_cases e0 : fwN W (outS v) zb q < 0
              · rw [if_pos (by rw [iI_lt (by omega) (by omega)]; exact e0)]
              · have eb : iI (fwN W (outS v) zb q) = iI (((fwN W (outS v) zb q).toNat : Nat) : Int) := by rw [show (((fwN W (outS v) zb q).toNat : Nat) : Int) = fwN W (outS v) zb q by omega]
                rw [if_neg (by rw [iI_lt (by omega) (by omega)]; exact e0), m_bits hq256, b2s, eb, m_bits (by omega), b2s, ← eb, if_neg (e2.resolve_left e0)]
            refine ⟨(iI (fwN W (outS v) zb (q + 1)), iI ((q + 1 : Nat) : Int), sS (aS τ v) v), ?_, rfl, rfl, aS τ v, rfl, Or.inr rfl⟩
            rw [hb1]
            unfold j_M_fewest_74
            rw [if_neg (by decide), ew, b2s, fwN_succ, iI_add]
            by_cases e3 : zb ≤ W q
            · rw [if_neg (by rw [iI_lt (by omega) (by omega)]; omega), if_pos ⟨e1, e2, e3⟩]
              rfl
            · rw [if_pos (by rw [iI_lt (by omega) (by omega)]; omega), if_neg (fun z => e3 z.2.2)]
              rfl
          · refine hno (by rw [fwN_succ, if_neg (fun z => e2 z.2.1)]) ?_
            have e0 : ¬ fwN W (outS v) zb q < 0 := fun z => e2 (Or.inl z)
            have e4 : bcX (iI (fwN W (outS v) zb q)) ≤ bcX (iI (q : Int)) := Classical.byContradiction (fun y => e2 (Or.inr y))
            have eb : iI (fwN W (outS v) zb q) = iI (((fwN W (outS v) zb q).toNat : Nat) : Int) := by rw [show (((fwN W (outS v) zb q).toNat : Nat) : Int) = fwN W (outS v) zb q by omega]
            unfold b_M_fewest_36
            rw [if_neg (by rw [iI_lt (by omega) (by omega)]; omega), if_pos e1, if_neg (by rw [iI_lt (by omega) (by omega)]; exact e0), m_bits hq256, b2s, eb, m_bits (by omega), b2s, ← eb, if_pos e4]
        · refine hno (by rw [fwN_succ, if_neg (fun z => e1 z.1)]) ?_
          unfold b_M_fewest_36
          rw [if_neg (by rw [iI_lt (by omega) (by omega)]; omega), if_neg e1]
      · intro a hI
        obtain ⟨a1, a2, a3⟩ := a
        obtain ⟨rfl, rfl, i3⟩ := hI
        refine ⟨(iI (fwN W (outS v) zb (outS v + 1)), a3), ?_, rfl, i3⟩
        show b_M_fewest_36 (iI za) (iI zb) (iI (outS v : Nat)) (iI (fwN W (outS v) zb (outS v + 1))) (iI ((outS v + 1 : Nat) : Int)) a3 = _
        unfold b_M_fewest_36
        rw [if_pos (by rw [iI_lt (by omega) (by omega)]; omega)]
    have hrN := hr 256
    have hend : ∀ τ τ' : Sg, sS τ v = τ → (τ' = τ ∨ τ' = aS τ v) → Ag Fr τ (sS τ' v) := by
      intro τ τ' hτ h'
      rcases h' with e | e
      · rw [e, hτ]; exact Ag.rf
      · rw [e, ← asS, hτ]; exact Ag.aS (Or.inl rfl)
    by_cases hb0 : 0 ≤ fwN W (outS v) zb 256
    · have k1 : sS σ1 v = σ1 := MS.keep h1 e20
      obtain ⟨⟨b1, b2'⟩, m1, m2, τ', m3, m4⟩ := hM σ1
      have m2 : b1 = iI (fwN W (outS v) zb 256) := m2
      have m3 : b2' = sS τ' v := m3
      subst m2
      subst m3
      refine ⟨iI (fwN W (outS v) zb 256), σ1, sS τ' v, ?_, ?_, hI1.fr (hend σ1 τ' k1 m4)⟩
      · unfold f_X_fewest
        rw [x_within _ _ _ ha (by omega) (by omega), b2s, if_pos hca, if_neg (by decide), x_within _ _ _ hb (by omega) (by omega), b2s, if_pos hcb, if_neg (by decide), x_out h1.2.1 g1, b2s, r1, b2s, hX, obs, if_pos (by rw [iI_le (by omega) (by omega)]; exact hb0)]
      · have e : f_M_fewest (iI za) (iI zb) (sS σ1 v) = some (iI (fwN W (outS v) zb 256), sS τ' v) := by
          unfold f_M_fewest
          rw [m_in1 _ _ _ ha (by omega) (by omega), b2s, if_pos hca, if_neg (by decide), m_in1 _ _ _ hb (by omega) (by omega), b2s, if_pos hcb, if_neg (by decide), m_out g1, b2s, m1, obs, if_pos (by rw [iI_le (by omega) (by omega)]; exact hb0)]
        rw [k1] at e
        exact e
    · have k1 : sS (foS σ1 3) v = foS σ1 3 := MS.keep h1 (by rw [foS_20, e20])
      obtain ⟨⟨b1, b2'⟩, m1, m2, τ', m3, m4⟩ := hM (foS σ1 3)
      have m2 : b1 = iI (fwN W (outS v) zb 256) := m2
      have m3 : b2' = sS τ' v := m3
      subst m2
      subst m3
      refine ⟨iI (-1000000004), foS σ1 3, noS (sS τ' v) 3, ?_, ?_, hI1.fz (k := 3) (by decide) (hend _ τ' k1 m4)⟩
      · unfold f_X_fewest
        rw [x_within _ _ _ ha (by omega) (by omega), b2s, if_pos hca, if_neg (by decide), x_within _ _ _ hb (by omega) (by omega), b2s, if_pos hcb, if_neg (by decide), x_out h1.2.1 g1, b2s, r1, b2s, hX, obs, if_neg (by rw [iI_le (by omega) (by omega)]; exact hb0), x_found3, b2s]
      · have e : f_M_fewest (iI za) (iI zb) (sS (foS σ1 3) v) = some (iI (-1000000004), noS (sS τ' v) 3) := by
          unfold f_M_fewest
          rw [m_in1 _ _ _ ha (by omega) (by omega), b2s, if_pos hca, if_neg (by decide), m_in1 _ _ _ hb (by omega) (by omega), b2s, if_pos hcb, if_neg (by decide), m_out g1, b2s, m1, obs, if_neg (by rw [iI_le (by omega) (by omega)]; exact hb0), m_no3, b2s]
        rw [k1] at e
        exact e
  · refine both_fo (k := 0) (by decide) h ?_ ?_
    · unfold f_X_fewest j_X_fewest_19
      rw [x_within _ _ _ ha (by omega) (by omega), b2s]
      by_cases h1 : 0 ≤ za ∧ za ≤ 3
      · rw [if_pos h1, if_neg (by decide), x_within _ _ _ hb (by omega) (by omega), b2s, if_neg (fun z => hc ⟨h1, z⟩), if_pos (by decide), x_found0, b2s]
        rfl
      · rw [if_neg h1, if_pos (by decide), x_found0, b2s]
        rfl
    · unfold f_M_fewest j_M_fewest_19
      rw [m_in1 _ _ _ ha (by omega) (by omega), b2s]
      by_cases h1 : 0 ≤ za ∧ za ≤ 3
      · rw [if_pos h1, if_neg (by decide), m_in1 _ _ _ hb (by omega) (by omega), b2s, if_neg (fun z => hc ⟨h1, z⟩), if_pos (by decide), m_no0, b2s]
        rfl
      · rw [if_neg h1, if_pos (by decide), m_no0, b2s]
        rfl
