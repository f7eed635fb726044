/-! PURE: which word, in the reference; what is done to a row -/
theorem lI_eq {a b : Int} (ha : -9223372036854775808 ≤ a ∧ a < 9223372036854775808) (hb : -9223372036854775808 ≤ b ∧ b < 9223372036854775808) : (lI a = lI b) = (a = b) := by
  rw [← Int64.toInt_inj, lI_to ha, lI_to hb]
theorem kcs : kc 0 = 43944275 ∧ kc 1 = 269726508 ∧ kc 2 = 318585548 ∧ kc 3 = 9524 ∧ kc 4 = 10492029 ∧ kc 5 = 379843 ∧ kc 6 = 583 ∧ kc 7 = 355280 ∧ kc 8 = 3427 ∧ kc 9 = 247516 ∧ kc 10 = 321818 ∧ kc 11 = 131638 := by decide +kernel
def cAt (g j : Nat) : Nat := (chs g).getD j 0
theorem cAt_rg : ∀ g, g < 3 → ∀ j, j < 48 → cAt g j ≤ 255 := by decide +kernel
theorem chs_len : ∀ g, g < 3 → (chs g).length = 8 * nW g := by decide +kernel
def pwN (g i : Nat) : Nat → Int
  | 0 => 0
  | k + 1 => if cAt g (8 * i + k) = 32 then pwN g i k else pwN g i k * 27 + ((cAt g (8 * i + k) : Nat) : Int) - 96
theorem pwN_succ (g i k : Nat) : pwN g i (k + 1) = if cAt g (8 * i + k) = 32 then pwN g i k else pwN g i k * 27 + ((cAt g (8 * i + k) : Nat) : Int) - 96 := rfl
theorem pwN_kc : ∀ g, g < 3 → ∀ i, i < nW g → pwN g i 8 = kc (sI g i) := by decide +kernel
theorem wo_in (σ : Sg) (x : Int32) {g i : Nat} (hg : g < 3) (hi : i < nW g) : lp (fun a => b_M_wordOf_27 g x (iI (i : Int)) a.1 a.2.1 a.2.2) FU (lI 0, iI 0, σ) = some (lI (kc (sI g i)), σ) := by
  have hlen := chs_len g hg
  have hW : nW g ≤ 6 := by
    unfold nW
    split <;> omega
  rw [← pwN_kc g hg i hi]
  refine lp_run (body := fun a => b_M_wordOf_27 g x (iI (i : Int)) a.1 a.2.1 a.2.2) (fun k => (lI (pwN g i k), iI (k : Int), σ)) _ 8 FU ?_ ?_ (by decide)
  · intro k hk
    show b_M_wordOf_27 g x (iI (i : Int)) (lI (pwN g i k)) (iI (k : Int)) σ = _
    have hc := cAt_rg g hg (8 * i + k) (by omega)
    have ec : chA g (8 * i + k) = iI ((cAt g (8 * i + k) : Nat) : Int) := (iN _).symm
    unfold b_M_wordOf_27
    rw [if_neg (by rw [iI_le (by omega) (by omega)]; omega), iI_mul, iI_add, show 8 * (i : Int) + (k : Int) = ((8 * i + k : Nat) : Int) by omega, rd_N (by omega) (by omega), obs, obs, ec, iI_64 (by omega), lI_mul, lI_add, lI_sub, iI_add, pwN_succ]
    by_cases e : cAt g (8 * i + k) = 32
    · rw [if_pos (by rw [e]; rfl), if_pos e]
      rfl
    · rw [if_neg (by rw [iI_eq (by omega) (by omega)]; omega), if_neg e]
      rfl
  · show b_M_wordOf_27 g x (iI (i : Int)) (lI (pwN g i 8)) (iI ((8 : Nat) : Int)) σ = _
    unfold b_M_wordOf_27
    rw [if_pos (by decide)]
theorem sI_lt {g i : Nat} (hg : g < 3) (hi : i < nW g) : sI g i < 12 := by
  unfold nW at hi
  unfold sI
  split at hi
  · rename_i e; rw [if_pos e]; omega
  · rename_i e; rw [if_neg e]; split <;> omega
theorem m_wordOf {len : Nat} {bs : Nat → Int} {p q : Nat} {t : Int} (hk : TK len bs p q t) (τ : Sg) (w : Ro) {g : Nat} (hg : g < 3) : f_M_wordOf g (MI τ bs p q t w) = some (iI (if t = 1 then wch g (wvN bs p (q - p)) (nW g) else -1), MI τ bs p q t w) := by
  obtain ⟨k1, k2, k3, k4, k5, k6, k7⟩ := hk
  have hN : (Int32.ofNat (chs g).length) / (iI 8) = iI ((nW g : Nat) : Int) := by
    have h3 : g = 0 ∨ g = 1 ∨ g = 2 := by omega
    rcases h3 with rfl | rfl | rfl <;> rfl
  have hW : 3 ≤ nW g ∧ nW g ≤ 6 := by
    unfold nW
    split <;> omega
  unfold f_M_wordOf
  by_cases e : t = 1
  · have hv : mvT bs t p q = wvN bs p (q - p) := by
      unfold mvT
      rw [if_pos e]
    have ht : mtT bs t p q = 1 := by
      unfold mtT
      rw [e, if_neg (fun z => absurd z.1 (by decide))]
    have hr := wvN_rg (bs := bs) (p := p) (q - p) (k6 e)
    have hl : lp (fun a => b_M_wordOf_4 g a.1 a.2.1 a.2.2) FU (iI (-1), iI 0, MI τ bs p q t w) = some (iI (wch g (wvN bs p (q - p)) (nW g)), MI τ bs p q t w) := by
      refine lp_run (fun i => (iI (wch g (wvN bs p (q - p)) i), iI (i : Int), MI τ bs p q t w)) _ (nW g) FU ?_ ?_ (Nat.lt_of_le_of_lt hW.2 (by decide))
      · intro i hi
        show b_M_wordOf_4 g (iI (wch g (wvN bs p (q - p)) i)) (iI (i : Int)) (MI τ bs p q t w) = _
        have hkr := kc_rg (sI g i) (sI_lt hg hi)
        unfold b_M_wordOf_4
        rw [hN, if_neg (by rw [iI_le (by omega) (by omega)]; omega), MI_2, ht, if_pos rfl, wo_in _ _ hg hi, obs, MI_V, hv, iI_add, wch_succ]
        by_cases e2 : kc (sI g i) = wvN bs p (q - p)
        · rw [if_pos (by rw [lg_eq, e2]), if_pos e2]
          rfl
        · rw [if_neg (by rw [lg_eq, lI_eq (by omega) (by omega)]; exact e2), if_neg e2]
          rfl
      · show b_M_wordOf_4 g (iI (wch g (wvN bs p (q - p)) (nW g))) (iI (nW g : Int)) (MI τ bs p q t w) = _
        unfold b_M_wordOf_4
        rw [hN, if_pos (by rw [iI_le (by omega) (by omega)]; omega)]
    rw [hl, obs, if_pos e]
  · have ht : ¬ iI (mtT bs t p q) = iI 1 := by
      unfold mtT
      split
      · decide
      · rw [iI_eq (by omega) (by omega)]; exact e
    have hl : lp (fun a => b_M_wordOf_4 g a.1 a.2.1 a.2.2) FU (iI (-1), iI 0, MI τ bs p q t w) = some (iI (-1), MI τ bs p q t w) := by
      refine lp_run (fun i => (iI (-1), iI 0, MI τ bs p q t w)) _ 0 FU (fun i hi => absurd hi (Nat.not_lt_zero i)) ?_ (by decide)
      show b_M_wordOf_4 g (iI (-1)) (iI 0) (MI τ bs p q t w) = _
      unfold b_M_wordOf_4
      rw [hN, if_neg (by rw [iI_le (by omega) (by omega)]; omega), MI_2, if_neg ht]
    rw [hl, obs, if_neg e]
theorem wch_0 (V : Int) : wch 0 V 6 = if kc 5 = V then 5 else if kc 4 = V then 4 else if kc 3 = V then 3 else if kc 2 = V then 2 else if kc 1 = V then 1 else if kc 0 = V then 0 else -1 := rfl
theorem wch_1 (V : Int) : wch 1 V 3 = if kc 11 = V then 2 else if kc 10 = V then 1 else if kc 9 = V then 0 else -1 := rfl
theorem wch_2 (V : Int) : wch 2 V 3 = if kc 8 = V then 2 else if kc 7 = V then 1 else if kc 6 = V then 0 else -1 := rfl
theorem wch1_iff (V : Int) {i : Nat} (hi : i < 3) : (wch 1 V 3 = (i : Int) ↔ V = kc (9 + i)) ∧ -1 ≤ wch 1 V 3 ∧ wch 1 V 3 ≤ 2 := by
  obtain ⟨c0, c1, c2, c3, c4, c5, c6, c7, c8, c9, c10, c11⟩ := kcs
  have h6 : i = 0 ∨ i = 1 ∨ i = 2 := by omega
  rcases h6 with rfl | rfl | rfl
  · show (wch 1 V 3 = 0 ↔ V = kc 9) ∧ _
    rw [wch_1, c9, c10, c11]
    repeat' split
    all_goals omega
  · show (wch 1 V 3 = 1 ↔ V = kc 10) ∧ _
    rw [wch_1, c9, c10, c11]
    repeat' split
    all_goals omega
  · show (wch 1 V 3 = 2 ↔ V = kc 11) ∧ _
    rw [wch_1, c9, c10, c11]
    repeat' split
    all_goals omega
/-- a row of the class, as another that says the same -/
theorem XW.cong {σ : Sg} {w : Nat} {v u : Ro} (h : XW σ w v) (e0 : ∀ i, i < 10 → u i = v i) (e1 : ∀ c, c < mny v → ∀ f, f < 7 → rug u c f = rug v c f) : XW σ w u := by
  refine ⟨?_, fun c hc => ?_⟩
  · unfold XH
    rw [e0 2 (by decide), e0 0 (by decide), e0 1 (by decide)]
    exact ⟨h.1.1, h.1.2.1, h.1.2.2.1, fun i hi => by rw [e0 _ (by omega)]; exact h.1.2.2.2 i hi⟩
  · rw [mny_hd e0] at hc
    exact (h.2 c hc).cong (e1 c hc)
theorem xw_setF {σ : Sg} {w : Ro} (h : XW σ 2 w) {c f : Nat} (hf : f = 1 ∨ f = 2 ∨ f = 3) (x : Int) : XW (upI σ 2 2 c f (iI x)) 2 (setRug w c (up (rug w c) f x)) := by
  have ha : Ag (P1 2 2 c) σ (upI σ 2 2 c f (iI x)) := Ag.upI ⟨rfl, rfl, rfl⟩
  refine ⟨?_, fun j hj => ?_⟩
  · have hh := h.1.ag ha (by simp [P1]) (by simp [P1])
    unfold XH at hh ⊢
    rw [setRug_hd (by decide), setRug_hd (by decide), setRug_hd (by decide)]
    exact ⟨hh.1, hh.2.1, hh.2.2.1, fun i hi => by rw [setRug_hd (by omega)]; exact hh.2.2.2 i hi⟩
  · rw [mny_hd (fun i hi => setRug_hd hi)] at hj
    by_cases e : j = c
    · subst e
      refine XR.cong (r := up (rug w j) f x) ?_ (fun f hf => setRug_at hf)
      obtain ⟨x0, x1, x2, x3, x4, x5, x6⟩ := h.2 j hj
      rcases hf with rfl | rfl | rfl
      all_goals
        refine ⟨x0, ?_, ?_, ?_, ?_, ?_, fun q => ?_⟩
        · simp [upI_1, up, x1]
        · simp [upI_1, up, x2]
        · simp [upI_1, up, x3]
        · simp [upI_1, up, x4]
        · simp [upI_1, up, x5]
        · simp [upI_1, up]; exact x6 q
    · exact ((h.2 j hj).ag ha (by simp [P1, e])).cong (fun f hf => setRug_ne e hf)
theorem x_addRug2 {σ : Sg} {v : Ro} (h : XW σ 2 v) (hg : GS v) (h8 : v 2 < 8) (k : Nat) (m : Int) : ∃ σ', f_World_addRug 2 k (iI m) σ = some (iI (v 2), σ') ∧ XW σ' 2 (addC v k m) ∧ Ag (PW 2) σ σ' := by
  have he := mny_eq hg
  have hv2 := hg.2.2.1
  have hmn := addC_mny hg (k := k) (m := m)
  have hb : ∃ σ', f_Rug_begin 2 (mny v) k (iI m) σ = some ((), σ') ∧ XR σ' 2 (mny v) (newR k m) ∧ Ag (P1 2 2 (mny v)) σ σ' := by
    refine ⟨_, rfl, ?_, ((((((Ag.upK ⟨rfl, rfl, rfl⟩).tr (Ag.upI ⟨rfl, rfl, rfl⟩)).tr (Ag.upI ⟨rfl, rfl, rfl⟩)).tr (Ag.upI ⟨rfl, rfl, rfl⟩)).tr (Ag.upI ⟨rfl, rfl, rfl⟩)).tr (Ag.upI ⟨rfl, rfl, rfl⟩)).tr (Ag.upI ⟨rfl, rfl, rfl⟩)⟩
    refine ⟨?_, ?_, ?_, ?_, ?_, ?_, ?_⟩ <;> simp [upI_1, upI_2, upK_2, newR]
  obtain ⟨σ1, q1, q2, q3⟩ := hb
  have e1 : σ1.1 1 2 0 = σ.1 1 2 0 := (q3 1 2 0 (by simp [P1])).1
  have hA : Ag (fun t _ _ => t = 1) σ1 (upI σ1 1 2 0 0 (iI (v 2 + 1))) := Ag.upI rfl
  have hB : Ag (fun t i _ => (t = 1 ∨ t = 2) ∧ i = 2) σ (upI σ1 1 2 0 0 (iI (v 2 + 1))) := (q3.mono (fun t i j z => ⟨Or.inr z.1, z.2.1⟩)).tr (Ag.upI ⟨Or.inl rfl, rfl⟩)
  refine ⟨upI σ1 1 2 0 0 (iI (v 2 + 1)), ?_, ⟨⟨?_, ?_, ?_, ?_⟩, ?_⟩, hB.mono (fun t i j z => by unfold PW; omega)⟩
  · unfold f_World_addRug
    rw [h.1.1, if_pos (by rw [iI_lt (by omega) (by omega)]; exact h8), ← he, rd_N (by omega) (by decide), obs, q1, b2s, e1, h.1.1, iI_add, upI_1, if_pos ⟨rfl, rfl, rfl, rfl⟩, iI_sub, he, show v 2 + 1 - 1 = v 2 by omega]
  · rw [upI_1, if_pos ⟨rfl, rfl, rfl, rfl⟩, addC_2]
  · rw [upI_1, if_neg (by decide), e1, addC_hd (by decide) (by decide)]; exact h.1.2.1
  · rw [upI_1, if_neg (by decide), e1, addC_hd (by decide) (by decide)]; exact h.1.2.2.1
  · intro i hi
    rw [(hB 12 2 0 (by simp)).1, addC_hd (by omega) (by omega)]; exact h.1.2.2.2 i hi
  · intro c hc
    rw [hmn] at hc
    by_cases e : c = mny v
    · subst e
      exact (q2.ag hA (by simp)).cong (fun f hf => addC_at hf)
    · exact (((h.2 c (by omega)).ag q3 (by simp [P1, e])).ag hA (by simp)).cong (fun f hf => addC_ne e hf)
theorem x_addRug2_no {σ : Sg} {v : Ro} (h : XW σ 2 v) (hg : GS v) (h8 : ¬ v 2 < 8) (k : Nat) (m : Int32) : f_World_addRug 2 k m σ = some (iI (-1), σ) := by
  have hv2 := hg.2.2.1
  unfold f_World_addRug
  rw [h.1.1, if_neg (by rw [iI_lt (by omega) (by omega)]; exact h8)]
theorem xw_rain2 {σ : Sg} {v : Ro} (h : XW σ 2 v) {k : Nat} (hk : k < 7) (x : Int) : XW (upI σ 12 2 0 k (iI x)) 2 (up v (3 + k) x) := by
  have ha : Ag (fun t _ _ => t = 12) σ (upI σ 12 2 0 k (iI x)) := Ag.upI rfl
  refine ⟨⟨?_, ?_, ?_, fun i hi => ?_⟩, fun c hc => ?_⟩
  · rw [(ha 1 2 0 (by simp)).1, up_ne (by omega)]; exact h.1.1
  · rw [(ha 1 2 0 (by simp)).1, up_ne (by omega)]; exact h.1.2.1
  · rw [(ha 1 2 0 (by simp)).1, up_ne (by omega)]; exact h.1.2.2.1
  · rw [upI_1]
    by_cases e : i = k
    · subst e
      rw [if_pos ⟨rfl, rfl, rfl, rfl⟩, up_same]
    · rw [if_neg (fun z => e z.2.2.2), up_ne (by omega)]; exact h.1.2.2.2 i hi
  · have hm : mny (up v (3 + k) x) = mny v := by unfold mny; rw [up_ne (by omega)]
    rw [hm] at hc
    exact ((h.2 c hc).ag ha (by simp)).cong (fun f _ => up_ne (by omega))
theorem gv_rain {n : Nat} {v : Ro} (h : GV n v) {k : Nat} (hk : k < 7) {x : Int} (hx : x = 0 ∨ x = 1) : GV n (up v (3 + k) x) := by
  obtain ⟨g1, g2, g3, g4, g5⟩ := h
  have hup : ∀ i, i ≠ 3 + k → up v (3 + k) x i = v i := fun i hi => up_ne hi
  have hm : mny (up v (3 + k) x) = mny v := by unfold mny; rw [hup 2 (by omega)]
  have hrg : ∀ c f, rug (up v (3 + k) x) c f = rug v c f := fun c f => hup _ (by omega)
  refine ⟨?_, by rw [hup 0 (by omega)]; exact g2, ?_, by rw [hup 1 (by omega)]; exact g4, ?_⟩
  · obtain ⟨k0, k1, k2, k3, k4⟩ := g1
    refine ⟨by rw [hup 0 (by omega)]; exact k0, by rw [hup 1 (by omega)]; exact k1, by rw [hup 2 (by omega)]; exact k2, fun i hi => ?_, fun c hc => ?_⟩
    · by_cases e : i = k
      · rw [e, up_same]; exact hx
      · rw [hup _ (by omega)]; exact k3 i hi
    · rw [hup 2 (by omega)] at hc
      exact GR.cong (fun f _ => hrg c f) (k4 c hc)
  · intro a b ha hb oa ob e
    rw [hm] at ha hb
    rw [hrg] at oa ob
    rw [hrg, hrg] at e
    exact g3 a b ha hb oa ob e
  · intro c hc ho
    rw [hm] at hc
    rw [hrg] at ho
    rw [hrg, hup 1 (by omega)]
    exact g5 c hc ho
