/-! PURE: an item of a text, on both sides -/
theorem xw_set2 {σ σ' : Sg} {v : Ro} {c : Nat} {r : Ro} (h : XW σ 2 v) (ha : Ag (P1 2 2 c) σ σ') (hX : XR σ' 2 c r) : XW σ' 2 (setRug v c r) := by
  have hmn : mny (setRug v c r) = mny v := mny_hd (fun i hi => setRug_hd hi)
  refine ⟨?_, fun a hc => ?_⟩
  · unfold XH
    rw [(ha 1 2 0 (by simp [P1])).1, (ha 12 2 0 (by simp [P1])).1, setRug_hd (by decide), setRug_hd (by decide), setRug_hd (by decide)]
    exact ⟨h.1.1, h.1.2.1, h.1.2.2.1, fun i hi => by rw [setRug_hd (by omega)]; exact h.1.2.2.2 i hi⟩
  · rw [hmn] at hc
    by_cases e : a = c
    · subst e
      exact hX.cong (fun f hf => setRug_at hf)
    · exact ((h.2 a hc).ag ha (by simp [P1, e])).cong (fun f hf => setRug_ne e hf)
theorem Rs.bo {len : Nat} {bs : Nat → Int} {n : Nat} {X M X' M' : Sg → Option (Int32 × Sg)} {σ σ2 : Sg} {p q p2 q2 : Nat} {t t2 : Int} {w w2 : Ro} {b : Nat} (h : Rs len bs n X' M' σ2 p2 q2 t2 w2 b) (hX : X σ = b2 (X' σ2) (fun v20 σ21 => Option.bind (bo v20) (fun r23 => some (r23, σ21)))) (ha : Ag PX σ σ2) (hM : ∀ τ, MB τ len bs → M (MI τ bs p q t w) = b2 (M' (MI τ bs p2 q2 t2 w2)) (fun v20 σ21 => Option.bind (bo v20) (fun r23 => some (r23, σ21)))) : Rs len bs n X M σ p q t w b := by
  obtain ⟨ok, p', q', t', w', σ', r1, r2, r3, r4, r5, r6⟩ := h
  refine ⟨ok, p', q', t', w', σ', r1, r2, ha.tr r3, ?_, fun τ hτ => ?_, r6⟩
  · rw [hX, r4, b2s, bo_if, obs]
  · rw [hM τ hτ, r5 τ hτ, b2s, bo_if, obs]
section ITEM
variable {len : Nat} {bs : Nat → Int} {p q : Nat} {t : Int} {w : Ro} {n b : Nat} {σ : Sg}
/-- the reference: up, behind its word -/
def Mup (s : Sg) : Option (Int32 × Sg) := b2 (f_M_isUpTold s) (fun v15 σ16 => (if v15 = (iI 0) then some ((iI 0), σ16) else b2 (f_M_readsUp σ16) (fun v18 σ19 => (if v18 = (iI 0) then some ((iI 0), σ19) else some ((iI 1), σ19)))))
def Mpl (x : Int32) (s : Sg) : Option (Int32 × Sg) := b2 (f_M_takesNumber (iI 0) (iI 6) s) (fun v10 σ11 => (if v10 < (iI 0) then j_M_readsItem_92 v10 σ11 else j_M_readsItem_91 v10 x ((iI 3) + v10) σ11))
theorem rs_up (hT : Tx len bs) (hX : XI σ len bs p q t) (hk : TK len bs p q t) (hW : XW σ 2 w) (hg : GP n w) (hb : b ≤ p) : Rs len bs n (f_PalaceReader_readUp 2) Mup σ p q t w b := by
  have g1 := hg.1.1
  have hm8 := mny_le g1
  have hmn := mny_eq g1
  have hw2 := g1.2.2.1
  have h3 := hk.2.2.1
  have hpq := hk.1
  obtain ⟨x1, x2⟩ := x_nh hX hk (a := 0) (b := w 2 - 1) (by omega) (by omega)
  by_cases hN : NU bs p q t 0 (w 2 - 1)
  · have hr := nu_rg hk hN
    have x1 := x1 hN
    obtain ⟨e2, e3, e4⟩ := id hN
    obtain ⟨c, hc⟩ : ∃ c : Nat, mvN bs p (q - p) = (c : Int) := ⟨(mvN bs p (q - p)).toNat, by omega⟩
    rw [hc] at x1 e4
    have hcm : c < mny w := by omega
    have hR := hW.2 c hcm
    have hG := g1.rg hcm
    have hG5 : -1 ≤ rug w c 5 ∧ rug w c 5 ≤ 39 := hG.2.2.2.2.2.1
    have hv : mvT bs t p q = (c : Int) := by
      unfold mvT
      rw [e2, if_neg (by decide), if_pos rfl, hc]
    have ht : mtT bs t p q = 2 := by
      unfold mtT
      rw [if_neg (fun z => absurd z.2 (by omega)), e2]
    have hUp : ∀ τ, f_M_isUpTold (MI τ bs p q t w) = some (if rug w c 5 < 0 then iI 0 else iI 1, MI τ bs p q t w) := by
      intro τ
      have ei : f_M_isCarpet (iI (c : Int)) (MI τ bs p q t w) = some (iI 1, MI τ bs p q t w) := by
        unfold MI
        rw [m_isC g1 _ (by omega), if_pos (by omega)]
      have eg : f_M_get (iI (c : Int)) (iI 5) (MI τ bs p q t w) = some (iI (rug w c 5), MI τ bs p q t w) := by
        unfold MI
        rw [m_get5 (by omega)]
      unfold f_M_isUpTold
      rw [MI_2, ht, if_pos rfl, MI_V, hv, l_32 (by omega), ei, b2s, if_neg (by decide), MI_V, hv, l_32 (by omega), eg, b2s]
      by_cases e : rug w c 5 < 0
      · rw [if_pos (by rw [iI_lt (by omega) (by omega)]; exact e), if_pos e]
      · rw [if_neg (by rw [iI_lt (by omega) (by omega)]; exact e), if_neg e]
    by_cases ho : 0 ≤ rug w c 5
    · obtain ⟨p3, q3, t3, o1, o2, o3⟩ := hk.nx
      obtain ⟨σ2, y1, y2, y3⟩ := x_putAway hR
      have y4 : Ag (PW 2) σ σ2 := y3.mono (fun t i j z => ⟨Or.inr (Or.inl z.1), z.2.1⟩)
      obtain ⟨σ3, z1, z2, z3⟩ := x_next hT (hX.pw y4) o1
      refine Rs.good o2 z2 (y4.xw.tr z3.x4) ?_ (fun τ hτ => ?_) ((xw_set2 hW y3 y2).p4 z3) ⟨hg.1.set hcm (hG.set (by omega) (by omega) (by omega) (by omega) (by omega) (by omega) (by omega)) (fun z => absurd z (by rw [up_same]; decide)), by rw [setRug_hd (by decide), setRug_hd (by decide)]; exact hg.2⟩ (by omega)
      · unfold f_PalaceReader_readUp
        rw [hW.1.1, iI_sub, x1, b2s, if_neg (by rw [iI_lt (by omega) (by omega)]; omega), rd_N (by omega) (by decide), obs, x_isOut hR hG, b2s, if_pos ho, if_neg (by decide), obs, y1, b2s, z1, b2s]
      · have et := m_tn_yes (w := w) hT hτ hk (a := 0) (b := 7) (by omega) (by omega) ⟨e2, e3, by omega⟩ o1
        rw [hc] at et
        unfold Mup f_M_readsUp j_M_readsUp_19
        rw [hUp τ, b2s, if_neg (show ¬ rug w c 5 < 0 by omega), if_neg (by decide), et, b2s, if_neg (by rw [iI_lt (by omega) (by omega)]; omega)]
        unfold MI
        rw [m_puts5 (by omega), b2s, if_neg (by rw [iI_lt (by omega) (by omega)]; omega), b2s, up_set (by decide), if_neg (by decide)]
    · refine Rs.fail hk hX Ag.rf ?_ (fun τ hτ => ?_) (w' := w)
      · unfold f_PalaceReader_readUp
        rw [hW.1.1, iI_sub, x1, b2s, if_neg (by rw [iI_lt (by omega) (by omega)]; omega), rd_N (by omega) (by decide), obs, x_isOut hR hG, b2s, if_neg ho, if_pos rfl]
      · unfold Mup
        rw [hUp τ, b2s, if_pos (show rug w c 5 < 0 by omega), if_pos rfl]
  · refine Rs.fail hk hX Ag.rf ?_ (fun τ hτ => ?_) (w' := w)
    · unfold f_PalaceReader_readUp
      rw [hW.1.1, iI_sub, x2 hN, b2s, if_pos (by decide)]
    · have hUp : f_M_isUpTold (MI τ bs p q t w) = some (iI 0, MI τ bs p q t w) := by
        unfold f_M_isUpTold
        rw [MI_2]
        by_cases e : t = 2
        · have hr := mvN_rg (bs := bs) (p := p) (q - p) (hk.2.2.2.2.2.2 e)
          have hv : mvT bs t p q = mvN bs p (q - p) := by
            unfold mvT
            rw [e, if_neg (by decide), if_pos rfl]
          by_cases e9 : 999 < mvN bs p (q - p)
          · rw [show mtT bs t p q = 4 by unfold mtT; rw [if_pos ⟨e, e9⟩], if_neg (by decide)]
          · have ei : f_M_isCarpet (iI (mvN bs p (q - p))) (MI τ bs p q t w) = some (iI 0, MI τ bs p q t w) := by
              unfold MI
              rw [m_isC g1 _ (by omega), if_neg (fun z => hN ⟨e, z.1, by omega⟩)]
            rw [show mtT bs t p q = 2 by unfold mtT; rw [if_neg (fun z => e9 z.2), e], if_pos rfl, MI_V, hv, l_32 (by omega), ei, b2s, if_pos rfl]
        · rw [show mtT bs t p q = t by unfold mtT; rw [if_neg (fun z => e z.1)], if_neg (by rw [iI_eq (by omega) (by omega)]; exact e)]
      unfold Mup
      rw [hUp, b2s, if_pos rfl]
theorem rs_place (hT : Tx len bs) (hX : XI σ len bs p q t) (hk : TK len bs p q t) (hW : XW σ 2 w) (hg : GP n w) (hb : b ≤ p) {x : Int} (hx : x = 0 ∨ x = 1) : Rs len bs n (f_PalaceReader_readPlace 2 (iI x)) (Mpl (iI x)) σ p q t w b := by
  have hpq := hk.1
  by_cases hN : NU bs p q t 0 6
  · have hr := nu_rg hk hN
    obtain ⟨e2, e3, e4⟩ := id hN
    obtain ⟨p3, q3, t3, o1, o2, o3⟩ := hk.nx
    obtain ⟨σ3, z1, z2, z3⟩ := x_pn_yes hT hX hk (a := 0) (b := 6) (by omega) (by omega) hN o1
    obtain ⟨c, hc⟩ : ∃ c : Nat, mvN bs p (q - p) = (c : Int) := ⟨(mvN bs p (q - p)).toNat, by omega⟩
    rw [hc] at z1 e4
    have hA : Ag (PW 2) σ3 (upI σ3 12 2 0 c (iI x)) := Ag.upI ⟨Or.inr (Or.inr (Or.inl rfl)), rfl⟩
    refine Rs.good o2 (z2.pw hA) (z3.x4.tr hA.xw) ?_ (fun τ hτ => ?_) (xw_rain2 (hW.p4 z3) (by omega) x) ⟨gv_rain hg.1 (by omega) hx, by rw [up_ne (by omega), up_ne (by omega)]; exact hg.2⟩ (by omega)
    · unfold f_PalaceReader_readPlace
      rw [z1, b2s, if_pos (by rw [iI_le (by omega) (by omega)]; omega), rd_N (by omega) (by decide), obs]
    · have et := m_tn_yes (w := w) hT hτ hk (a := 0) (b := 6) (by omega) (by omega) hN o1
      rw [hc] at et
      unfold Mpl j_M_readsItem_91 j_M_readsItem_92
      rw [et, b2s, if_neg (by rw [iI_lt (by omega) (by omega)]; omega), iI_add, show (3 : Int) + (c : Int) = ((3 + c : Nat) : Int) by omega, rd_N (by omega) (by decide), obs, if_neg (by rw [iI_lt (by omega) (by omega)]; omega)]
      unfold MI
      rw [sS_up (by omega)]
  · refine Rs.fail hk hX Ag.rf ?_ (fun τ hτ => ?_) (w' := w)
    · unfold f_PalaceReader_readPlace
      rw [x_pn_no hX hk (a := 0) (b := 6) (by omega) (by omega) hN, b2s, if_neg (by decide)]
    · unfold Mpl j_M_readsItem_92
      rw [m_tn_no hk (a := 0) (b := 6) (by omega) (by omega) hN, b2s, if_pos (by decide), if_pos (by decide)]
theorem rs_item (hT : Tx len bs) (hn9 : n < 900) (hX : XI σ len bs p q t) (hk : TK len bs p q t) (hW : XW σ 2 w) (hg : GP n w) (hb : t = 1 → b ≤ q) : Rs len bs n (f_PalaceReader_readItem 2) f_M_readsItem σ p q t w b := by
  obtain ⟨c0, c1, c2, c3, c4, c5, c6, c7, c8, c9, c10, c11⟩ := kcs
  obtain ⟨p2, q2, t2, n1, n2, n3⟩ := hk.nx
  have hw0 : ∀ τ, f_M_wordOf 0 (MI τ bs p q t w) = some (iI (if t = 1 then wch 0 (wvN bs p (q - p)) 6 else -1), MI τ bs p q t w) := fun τ => m_wordOf hk τ w (g := 0) (by decide)
  have hw2 : ∀ τ, f_M_wordOf 2 (MI τ bs p q t w) = some (iI (if t = 1 then wch 2 (wvN bs p (q - p)) 3 else -1), MI τ bs p q t w) := fun τ => m_wordOf hk τ w (g := 2) (by decide)
  by_cases hu : t = 1 ∧ wvN bs p (q - p) = kc 6
  · obtain ⟨σ2, y1, y2, y3⟩ := x_pw_yes hT hX hk (k := 6) (by decide) hu n1
    have w0 : wch 0 (wvN bs p (q - p)) 6 = -1 := by rw [hu.2, wch_0, c0, c1, c2, c3, c4, c5, c6]; rfl
    have w2 : wch 2 (wvN bs p (q - p)) 3 = 0 := by rw [hu.2, wch_2, c6, c7, c8]; rfl
    have hr := rs_up (b := b) hT y2 n2 (hW.p4 y3) hg (Nat.le_trans (hb hu.1) n3)
    obtain ⟨ok, p', q', t', w', σ', r1, r2, r3, r4, r5, r6⟩ := hr
    refine ⟨ok, p', q', t', w', σ', r1, r2, y3.x4.tr r3, ?_, fun τ hτ => ?_, r6⟩
    · unfold f_PalaceReader_readItem
      rw [y1, b2s, if_neg (by decide), r4, b2s, bo_if, obs]
    · have r5 := r5 τ hτ
      unfold Mup at r5
      unfold f_M_readsItem
      rw [hw0 τ, b2s, if_pos hu.1, w0, if_pos (by decide), hw2 τ, b2s, if_pos hu.1, w2, if_pos (by decide), m_next hT hτ n1, b2s, if_pos rfl]
      exact r5
  · have hxu := x_pw_no hT hX hk (k := 6) (by decide) hu
    by_cases hrn : t = 1 ∧ wvN bs p (q - p) = kc 7
    · obtain ⟨σ2, y1, y2, y3⟩ := x_pw_yes hT hX hk (k := 7) (by decide) hrn n1
      have w0 : wch 0 (wvN bs p (q - p)) 6 = -1 := by rw [hrn.2, wch_0, c0, c1, c2, c3, c4, c5, c7]; rfl
      have w2 : wch 2 (wvN bs p (q - p)) 3 = 1 := by rw [hrn.2, wch_2, c6, c7, c8]; rfl
      have hr := rs_place (b := b) hT y2 n2 (hW.p4 y3) hg (Nat.le_trans (hb hrn.1) n3) (x := 1) (Or.inr rfl)
      obtain ⟨ok, p', q', t', w', σ', r1, r2, r3, r4, r5, r6⟩ := hr
      refine ⟨ok, p', q', t', w', σ', r1, r2, y3.x4.tr r3, ?_, fun τ hτ => ?_, r6⟩
      · unfold f_PalaceReader_readItem
        rw [hxu, b2s, if_pos rfl, y1, b2s, if_neg (by decide), r4, b2s, bo_if, obs]
      · have r5 := r5 τ hτ
        unfold Mpl at r5
        unfold f_M_readsItem
        rw [hw0 τ, b2s, if_pos hrn.1, w0, if_pos (by decide), hw2 τ, b2s, if_pos hrn.1, w2, if_pos (by decide), m_next hT hτ n1, b2s, if_neg (by decide)]
        refine Eq.trans (congrArg (b2 (f_M_takesNumber (iI 0) (iI 6) (MI τ bs p2 q2 t2 w))) ?_) r5
        funext v10 σ11
        rw [if_pos (show iI 1 = iI 1 from rfl)]
    · have hxr := x_pw_no hT hX hk (k := 7) (by decide) hrn
      by_cases hdr : t = 1 ∧ wvN bs p (q - p) = kc 8
      · obtain ⟨σ2, y1, y2, y3⟩ := x_pw_yes hT hX hk (k := 8) (by decide) hdr n1
        have w0 : wch 0 (wvN bs p (q - p)) 6 = -1 := by rw [hdr.2, wch_0, c0, c1, c2, c3, c4, c5, c8]; rfl
        have w2 : wch 2 (wvN bs p (q - p)) 3 = 2 := by rw [hdr.2, wch_2, c6, c7, c8]; rfl
        have hr := rs_place (b := b) hT y2 n2 (hW.p4 y3) hg (Nat.le_trans (hb hdr.1) n3) (x := 0) (Or.inl rfl)
        obtain ⟨ok, p', q', t', w', σ', r1, r2, r3, r4, r5, r6⟩ := hr
        refine ⟨ok, p', q', t', w', σ', r1, r2, y3.x4.tr r3, ?_, fun τ hτ => ?_, r6⟩
        · unfold f_PalaceReader_readItem
          rw [hxu, b2s, if_pos rfl, hxr, b2s, if_pos rfl, y1, b2s, if_neg (by decide), r4, b2s, bo_if, obs]
        · have r5 := r5 τ hτ
          unfold Mpl at r5
          unfold f_M_readsItem
          rw [hw0 τ, b2s, if_pos hdr.1, w0, if_pos (by decide), hw2 τ, b2s, if_pos hdr.1, w2, if_pos (by decide), m_next hT hτ n1, b2s, if_neg (by decide)]
          refine Eq.trans (congrArg (b2 (f_M_takesNumber (iI 0) (iI 6) (MI τ bs p2 q2 t2 w))) ?_) r5
          funext v10 σ11
          rw [if_neg (show ¬ iI 2 = iI 1 by decide)]
      · have hxd := x_pw_no hT hX hk (k := 8) (by decide) hdr
        have w2 : (if t = 1 then wch 2 (wvN bs p (q - p)) 3 else -1) = -1 := by
          by_cases e : t = 1
          · rw [if_pos e, wch_2, if_neg (fun z => hdr ⟨e, z.symm⟩), if_neg (fun z => hrn ⟨e, z.symm⟩), if_neg (fun z => hu ⟨e, z.symm⟩)]
          · rw [if_neg e]
        obtain ⟨K, d1, d2, d3⟩ := first_ex (p := fun k => k < 6 ∧ ¬ (t = 1 ∧ wvN bs p (q - p) = kc k)) 6 (by omega)
        have hlp : lp (fun a => b_PalaceReader_readItem_49 2 a.1 a.2) FU (iI 0, σ) = some (if K < 6 then .inl (iI (K : Int), σ) else .inr σ) := by
          refine lp_run (fun i => (iI (i : Int), σ)) _ K FU ?_ ?_ (Nat.lt_of_le_of_lt d1 (by decide))
          · intro i hi
            show b_PalaceReader_readItem_49 2 (iI (i : Int)) σ = _
            obtain ⟨d4, d5⟩ := d2 i hi
            unfold b_PalaceReader_readItem_49
            rw [if_neg (by rw [iI_le (by omega) (by omega)]; omega), rd_N d4 (by decide), obs, x_isWord hT hX hk (by omega), b2s, if_neg d5, if_pos rfl, iI_add]
            rfl
          · show b_PalaceReader_readItem_49 2 (iI (K : Int)) σ = _
            unfold b_PalaceReader_readItem_49
            by_cases e : K < 6
            · have hK : t = 1 ∧ wvN bs p (q - p) = kc K := Classical.byContradiction (fun z => d3 ⟨e, z⟩)
              rw [if_neg (by rw [iI_le (by omega) (by omega)]; omega), rd_N e (by decide), obs, x_isWord hT hX hk (by omega), b2s, if_pos hK, if_neg (by decide), if_pos e]
            · rw [if_pos (by rw [iI_le (by omega) (by omega)]; omega), if_neg e]
        by_cases e : K < 6
        · have hK : t = 1 ∧ wvN bs p (q - p) = kc K := Classical.byContradiction (fun z => d3 ⟨e, z⟩)
          have w0 : wch 0 (wvN bs p (q - p)) 6 = (K : Int) := by
            rw [hK.2, wch_0]
            have h6 : K = 0 ∨ K = 1 ∨ K = 2 ∨ K = 3 ∨ K = 4 ∨ K = 5 := by omega
            rcases h6 with rfl | rfl | rfl | rfl | rfl | rfl <;> (rw [c0, c1, c2, c3, c4, c5]; rfl)
          refine Rs.bo (rs_rug (b := b) hT hn9 hX hk hW hg e (hb hK.1)) ?_ Ag.rf (fun τ hτ => ?_)
          · unfold f_PalaceReader_readItem
            rw [hxu, b2s, if_pos rfl, hxr, b2s, if_pos rfl, hxd, b2s, if_pos rfl, hlp, obs, if_pos e]
            show Option.bind (rd (iI (K : Int)) 6) _ = _
            rw [rd_N e (by decide), obs]
          · unfold f_M_readsItem
            rw [hw0 τ, b2s, if_pos hK.1, w0, if_neg (by rw [iI_lt (by omega) (by omega)]; omega)]
        · have w0 : (if t = 1 then wch 0 (wvN bs p (q - p)) 6 else -1) = -1 := by
            by_cases et : t = 1
            · have hno : ∀ k, k < 6 → ¬ kc k = wvN bs p (q - p) := fun k hk z => (d2 k (by omega)).2 ⟨et, z.symm⟩
              rw [if_pos et, wch_0, if_neg (hno 5 (by decide)), if_neg (hno 4 (by decide)), if_neg (hno 3 (by decide)), if_neg (hno 2 (by decide)), if_neg (hno 1 (by decide)), if_neg (hno 0 (by decide))]
            · rw [if_neg et]
          refine Rs.fail hk hX Ag.rf ?_ (fun τ hτ => ?_) (w' := w)
          · unfold f_PalaceReader_readItem
            rw [hxu, b2s, if_pos rfl, hxr, b2s, if_pos rfl, hxd, b2s, if_pos rfl, hlp, obs, if_neg e]
            rfl
          · unfold f_M_readsItem
            rw [hw0 τ, b2s, w0, if_pos (by decide), hw2 τ, b2s, w2, if_neg (by decide)]
end ITEM
