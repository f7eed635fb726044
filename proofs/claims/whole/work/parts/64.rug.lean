/-! PURE: a carpet of a text, on both sides -/
def PX : Nat → Nat → Nat → Prop := fun t i j => PW 2 t i j ∨ P1 4 0 0 t i j
theorem XI.ag {P : Nat → Nat → Nat → Prop} {σ σ' : Sg} {len : Nat} {bs : Nat → Int} {p q : Nat} {t : Int} (h : XI σ len bs p q t) (ha : Ag P σ σ') (h4 : ¬ P 4 0 0) (h15 : ¬ P 15 0 0) : XI σ' len bs p q t := by
  unfold XI XB
  rw [(ha 4 0 0 h4).1, (ha 15 0 0 h15).1]
  exact h
theorem XI.pw {σ σ' : Sg} {len : Nat} {bs : Nat → Int} {p q : Nat} {t : Int} (h : XI σ len bs p q t) (ha : Ag (PW 2) σ σ') : XI σ' len bs p q t := h.ag ha (by simp [PW]) (by simp [PW])
theorem XW.p4 {σ σ' : Sg} {w : Nat} {v : Ro} (h : XW σ w v) (ha : Ag (P1 4 0 0) σ σ') : XW σ' w v := h.ag ha (by simp [P1]) (by simp [P1]) (by simp [P1])
theorem Ag.x4 {σ σ' : Sg} (h : Ag (P1 4 0 0) σ σ') : Ag PX σ σ' := h.mono (fun _ _ _ z => Or.inr z)
theorem Ag.xw {σ σ' : Sg} (h : Ag (PW 2) σ σ') : Ag PX σ σ' := h.mono (fun _ _ _ z => Or.inl z)
def GP (n : Nat) (w : Ro) : Prop := GV (n + 1) w ∧ w 1 ≤ 16 * n + w 2
def GQ (n : Nat) (w : Ro) : Prop := GV (n + 1) w ∧ w 1 + 1 ≤ 16 * n + w 2
theorem GQ.gp {n : Nat} {w : Ro} (h : GQ n w) : GP n w := ⟨h.1, by have := h.2; omega⟩
/-- both read on from a token, and stand at one token then -/
def Rs (len : Nat) (bs : Nat → Int) (n : Nat) (X M : Sg → Option (Int32 × Sg)) (σ : Sg) (p q : Nat) (t : Int) (w : Ro) (b : Nat) : Prop := ∃ (ok : Bool) (p' q' : Nat) (t' : Int) (w' : Ro) (σ' : Sg), TK len bs p' q' t' ∧ XI σ' len bs p' q' t' ∧ Ag PX σ σ' ∧ X σ = some (if ok = true then iI 1 else iI 0, σ') ∧ (∀ τ, MB τ len bs → M (MI τ bs p q t w) = some (if ok = true then iI 1 else iI 0, MI τ bs p' q' t' w')) ∧ (ok = true → XW σ' 2 w' ∧ GP n w' ∧ b ≤ p')
theorem Rs.step {len : Nat} {bs : Nat → Int} {n : Nat} {X M X' M' : Sg → Option (Int32 × Sg)} {σ σ2 : Sg} {p q p2 q2 : Nat} {t t2 : Int} {w w2 : Ro} {b : Nat} (h : Rs len bs n X' M' σ2 p2 q2 t2 w2 b) (hX : X σ = X' σ2) (ha : Ag PX σ σ2) (hM : ∀ τ, MB τ len bs → M (MI τ bs p q t w) = M' (MI τ bs p2 q2 t2 w2)) : Rs len bs n X M σ p q t w b := by
  obtain ⟨ok, p', q', t', w', σ', r1, r2, r3, r4, r5, r6⟩ := h
  exact ⟨ok, p', q', t', w', σ', r1, r2, ha.tr r3, hX.trans r4, fun τ hτ => (hM τ hτ).trans (r5 τ hτ), r6⟩
theorem Rs.fail {len : Nat} {bs : Nat → Int} {n : Nat} {X M : Sg → Option (Int32 × Sg)} {σ σ' : Sg} {p q p' q' : Nat} {t t' : Int} {w w' : Ro} {b : Nat} (hk : TK len bs p' q' t') (hx : XI σ' len bs p' q' t') (ha : Ag PX σ σ') (hX : X σ = some (iI 0, σ')) (hM : ∀ τ, MB τ len bs → M (MI τ bs p q t w) = some (iI 0, MI τ bs p' q' t' w')) : Rs len bs n X M σ p q t w b := ⟨false, p', q', t', w', σ', hk, hx, ha, hX, hM, fun z => absurd z (by decide)⟩
theorem Rs.good {len : Nat} {bs : Nat → Int} {n : Nat} {X M : Sg → Option (Int32 × Sg)} {σ σ' : Sg} {p q p' q' : Nat} {t t' : Int} {w w' : Ro} {b : Nat} (hk : TK len bs p' q' t') (hx : XI σ' len bs p' q' t') (ha : Ag PX σ σ') (hX : X σ = some (iI 1, σ')) (hM : ∀ τ, MB τ len bs → M (MI τ bs p q t w) = some (iI 1, MI τ bs p' q' t' w')) (hw : XW σ' 2 w') (hg : GP n w') (hb : b ≤ p') : Rs len bs n X M σ p q t w b := ⟨true, p', q', t', w', σ', hk, hx, ha, hX, hM, fun _ => ⟨hw, hg, hb⟩⟩
theorem TK.nx {len : Nat} {bs : Nat → Int} {p q : Nat} {t : Int} (h : TK len bs p q t) : ∃ p' q' t', TF len bs q p' q' t' ∧ TK len bs p' q' t' ∧ q ≤ p' := by
  obtain ⟨p', q', t', h1⟩ := tf_ex (len := len) (bs := bs) (q0 := q) h.2.1
  exact ⟨p', q', t', h1, h1.tk, h1.1⟩
theorem lp_inl {α β : Type} {body : α → Option (α ⊕ β)} {m : Nat} {a a' : α} (h : body a = some (.inl a')) : lp body (m + 1) a = lp body m a' := by
  rw [lp, h]
theorem lp_inr {α β : Type} {body : α → Option (α ⊕ β)} {m : Nat} {a : α} {b : β} (h : body a = some (.inr b)) : lp body (m + 1) a = some b := by
  rw [lp, h]
/-- the reference's loop over what may stand behind a carpet -/
def Mc (c : Int32) (m : Nat) (i : Int32) (s : Sg) : Option (Int32 × Sg) := Option.bind (lp (fun a => b_M_readsCarpet_46 c a.1 a.2) m (i, s)) (fun z => Sum.elim (fun b32 => some ((iI 0), b32)) (fun b33 => some ((iI 1), b33)) z)
theorem Mc_go {c i i' : Int32} {m : Nat} {s s' : Sg} (h : b_M_readsCarpet_46 c i s = some (.inl (i', s'))) : Mc c (m + 1) i s = Mc c m i' s' := by
  unfold Mc
  rw [lp_inl (body := fun a => b_M_readsCarpet_46 c a.1 a.2) (a := (i, s)) h]
theorem Mc_no {c i : Int32} {m : Nat} {s s' : Sg} (h : b_M_readsCarpet_46 c i s = some (.inr (.inl s'))) : Mc c (m + 1) i s = some (iI 0, s') := by
  unfold Mc
  rw [lp_inr (body := fun a => b_M_readsCarpet_46 c a.1 a.2) (a := (i, s)) h]
  rfl
theorem Mc_end {c : Int32} {m : Nat} {s : Sg} : Mc c (m + 1) (iI 3) s = some (iI 1, s) := by
  have h : b_M_readsCarpet_46 c (iI 3) s = some (.inr (.inr s)) := by
    unfold b_M_readsCarpet_46
    rw [if_pos (by decide)]
  unfold Mc
  rw [lp_inr (body := fun a => b_M_readsCarpet_46 c a.1 a.2) (a := (iI 3, s)) h]
  rfl
section RUG
variable {τ : Sg} {len : Nat} {bs : Nat → Int} {p q p' q' p3 q3 : Nat} {t t' t3 : Int} {w : Ro} {c n m b : Nat} {σ : Sg}
theorem m_rc_no (hk : TK len bs p q t) {i : Nat} (hi : i < 3) (h : ¬ (t = 1 ∧ wvN bs p (q - p) = kc (9 + i))) : b_M_readsCarpet_46 (iI (c : Int)) (iI (i : Int)) (MI τ bs p q t w) = some (.inl (iI ((i + 1 : Nat) : Int), MI τ bs p q t w)) := by
  obtain ⟨w1, w2, w3⟩ := wch1_iff (wvN bs p (q - p)) hi
  unfold b_M_readsCarpet_46
  rw [if_neg (by rw [iI_le (by omega) (by omega)]; omega), m_wordOf hk τ w (by decide), b2s]
  by_cases e : t = 1
  · rw [if_pos e, if_neg (show ¬ iI (wch 1 (wvN bs p (q - p)) (nW 1)) = iI (i : Int) by
      show ¬ iI (wch 1 (wvN bs p (q - p)) 3) = iI (i : Int)
      rw [iI_eq (by omega) (by omega)]
      exact fun z => h ⟨e, w1.mp z⟩), iI_add]
    rfl
  · rw [if_neg e, if_neg (show ¬ iI (-1) = iI (i : Int) by rw [iI_eq (by omega) (by omega)]; omega), iI_add]
    rfl
theorem m_rc_word (hT : Tx len bs) (hM : MB τ len bs) (hk : TK len bs p q t) {i : Nat} (hi : i < 3) (h : t = 1 ∧ wvN bs p (q - p) = kc (9 + i)) (hn : TF len bs q p' q' t') : b_M_readsCarpet_46 (iI (c : Int)) (iI (i : Int)) (MI τ bs p q t w) = j_M_readsCarpet_103 (iI (c : Int)) (iI (i : Int)) (iI (if i = 0 then 20 else if i = 1 then 99 else 39)) (iI (if i = 0 then 1 else 0)) (MI τ bs p' q' t' w) := by
  obtain ⟨w1, w2, w3⟩ := wch1_iff (wvN bs p (q - p)) hi
  unfold b_M_readsCarpet_46 j_M_readsCarpet_80
  rw [if_neg (by rw [iI_le (by omega) (by omega)]; omega), m_wordOf hk τ w (by decide), b2s, if_pos h.1, if_pos (show iI (wch 1 (wvN bs p (q - p)) (nW 1)) = iI (i : Int) by
      show iI (wch 1 (wvN bs p (q - p)) 3) = iI (i : Int)
      rw [w1.mpr h.2]), m_next hT hM hn, b2s]
  have h6 : i = 0 ∨ i = 1 ∨ i = 2 := by omega
  rcases h6 with rfl | rfl | rfl <;> (repeat first | rw [if_neg (by decide)] | rw [if_pos (by decide)])
theorem m_rc_bad (hk : TK len bs p q t) {i : Int32} {lo hi : Int} (h1 : 0 ≤ lo ∧ lo ≤ 999) (h2 : -1 ≤ hi ∧ hi ≤ 999) (h : ¬ NU bs p q t lo hi) : j_M_readsCarpet_103 (iI (c : Int)) i (iI hi) (iI lo) (MI τ bs p q t w) = some (.inr (.inl (MI τ bs p q t w))) := by
  unfold j_M_readsCarpet_103
  rw [m_tn_no hk h1 h2 h, b2s, if_neg (by decide)]
theorem m_rc_ok (hT : Tx len bs) (hM : MB τ len bs) (hk : TK len bs p q t) (hc : c < 8) {i : Nat} (hi : i < 2) {lo hi' : Int} (h1 : 0 ≤ lo ∧ lo ≤ 999) (h2 : -1 ≤ hi' ∧ hi' ≤ 999) (h : NU bs p q t lo hi') (hn : TF len bs q p' q' t') : j_M_readsCarpet_103 (iI (c : Int)) (iI (i : Int)) (iI hi') (iI lo) (MI τ bs p q t w) = some (.inl (iI ((i + 1 : Nat) : Int), MI τ bs p' q' t' (setRug w c (up (rug w c) (2 + i) (mvN bs p (q - p)))))) := by
  have hr := nu_rg hk h
  unfold j_M_readsCarpet_103
  rw [m_tn_yes hT hM hk h1 h2 h hn, b2s, if_pos (by rw [iI_le (by omega) (by omega)]; omega), if_neg (by rw [iI_eq (by omega) (by omega)]; omega), iI_add, show (2 : Int) + (i : Int) = ((2 + i : Nat) : Int) by omega]
  unfold MI
  rw [m_putsN hc (by omega), b2s, iI_add, up_set (by omega)]
  rfl
theorem m_rc_from (hT : Tx len bs) (hM : MB τ len bs) (hk : TK len bs p q t) (hg : GS w) (hw : w 1 < 99998) (hc : c < mny w) {lo hi' : Int} (h1 : 0 ≤ lo ∧ lo ≤ 999) (h2 : -1 ≤ hi' ∧ hi' ≤ 999) (h : NU bs p q t lo hi') (hn : TF len bs q p' q' t') : j_M_readsCarpet_103 (iI (c : Int)) (iI 2) (iI hi') (iI lo) (MI τ bs p q t w) = some (.inl (iI 3, MI τ bs p' q' t' (lay w c (mvN bs p (q - p))))) := by
  have hr := nu_rg hk h
  unfold j_M_readsCarpet_103
  rw [m_tn_yes hT hM hk h1 h2 h hn, b2s, if_pos (by rw [iI_le (by omega) (by omega)]; omega), if_pos rfl]
  unfold MI
  rw [m_rollsOut hg _ hw hc, b2s, iI_add]
  rfl
def X2 (c : Nat) (σ : Sg) : Option (Int32 × Sg) := b2 (f_Tape_passesWord 11 σ) (fun v18 σ19 => (if v18 = (iI 0) then j_PalaceReader_readRug_144 2 2 c (iI (-1)) σ19 else b2 (f_Tape_passNumber (iI 0) (iI 39) σ19) (fun v24 σ25 => j_PalaceReader_readRug_144 2 2 c v24 σ25)))
def X1 (c : Nat) (σ : Sg) : Option (Int32 × Sg) := b2 (f_Tape_passesWord 10 σ) (fun v15 σ16 => (if v15 = (iI 0) then j_PalaceReader_readRug_109 2 2 c (iI 50) 2 c σ16 else b2 (f_Tape_passNumber (iI 0) (iI 99) σ16) (fun v27 σ28 => j_PalaceReader_readRug_109 2 2 c v27 2 c σ28)))
def X0 (c : Nat) (σ : Sg) : Option (Int32 × Sg) := b2 (f_Tape_passesWord 9 σ) (fun v12 σ13 => (if v12 = (iI 0) then j_PalaceReader_readRug_71 2 2 c (iI 8) 2 c σ13 else b2 (f_Tape_passNumber (iI 1) (iI 20) σ13) (fun v30 σ31 => j_PalaceReader_readRug_71 2 2 c v30 2 c σ31)))
theorem j109_ok {x : Int} (hx : 0 ≤ x ∧ x ≤ 9999) : j_PalaceReader_readRug_109 2 2 c (iI x) 2 c σ = X2 c (upI σ 2 2 c 3 (iI x)) := by
  unfold j_PalaceReader_readRug_109
  rw [if_neg (by rw [upI_1, if_pos ⟨rfl, rfl, rfl, rfl⟩, iI_eq (by omega) (by omega)]; omega)]
  rfl
theorem j109_bad : j_PalaceReader_readRug_109 2 2 c (iI (-2)) 2 c σ = some (iI 0, upI σ 2 2 c 3 (iI (-2))) := by
  unfold j_PalaceReader_readRug_109
  rw [if_pos (by rw [upI_1, if_pos ⟨rfl, rfl, rfl, rfl⟩])]
theorem j71_ok {x : Int} (hx : 0 ≤ x ∧ x ≤ 9999) : j_PalaceReader_readRug_71 2 2 c (iI x) 2 c σ = X1 c (upI σ 2 2 c 2 (iI x)) := by
  unfold j_PalaceReader_readRug_71
  rw [if_neg (by rw [upI_1, if_pos ⟨rfl, rfl, rfl, rfl⟩, iI_eq (by omega) (by omega)]; omega)]
  rfl
theorem j71_bad : j_PalaceReader_readRug_71 2 2 c (iI (-2)) 2 c σ = some (iI 0, upI σ 2 2 c 2 (iI (-2))) := by
  unfold j_PalaceReader_readRug_71
  rw [if_pos (by rw [upI_1, if_pos ⟨rfl, rfl, rfl, rfl⟩])]
theorem ag_rug {f : Nat} {x : Int32} : Ag (PW 2) σ (upI σ 2 2 c f x) := Ag.upI ⟨Or.inr (Or.inl rfl), rfl⟩
theorem st2 (hT : Tx len bs) (hn9 : n < 900) (hX : XI σ len bs p q t) (hk : TK len bs p q t) (hW : XW σ 2 w) (hg : GQ n w) (hc : c < mny w) (hb : b ≤ p) : Rs len bs n (X2 c) (Mc (iI (c : Int)) (m + 2) (iI 2)) σ p q t w b := by
  have g1 := hg.1.1
  have hw2 := g1.2.2.1
  have hw1 : 0 ≤ w 1 ∧ w 1 < 99998 := by
    have := g1.2.1
    have := hg.2
    omega
  by_cases h : t = 1 ∧ wvN bs p (q - p) = kc 11
  · obtain ⟨p2, q2, t2, n1, n2, n3⟩ := hk.nx
    obtain ⟨σ2, y1, y2, y3⟩ := x_pw_yes hT hX hk (k := 11) (by decide) h n1
    have hpq := hk.1
    by_cases hN : NU bs p2 q2 t2 0 39
    · obtain ⟨p3, q3, t3, o1, o2, o3⟩ := n2.nx
      have hr := nu_rg n2 hN
      have hpq2 := n2.1
      have hyr : 0 ≤ mvN bs p2 (q2 - p2) ∧ mvN bs p2 (q2 - p2) ≤ 39 := hN.2
      obtain ⟨σ3, z1, z2, z3⟩ := x_pn_yes hT y2 n2 (a := 0) (b := 39) (by omega) (by omega) hN o1
      obtain ⟨σ4, l1, l2, l3⟩ := x_layOut ((hW.p4 y3).p4 z3) hw1 hc (mvN bs p2 (q2 - p2))
      obtain ⟨v1, v2, v3, v4, v5⟩ := gv_lay hg.1 (by omega) hc hyr
      refine Rs.good o2 (z2.pw l3) ((y3.x4.tr z3.x4).tr l3.xw) ?_ (fun τ hτ => ?_) l2 ⟨⟨v1, v2, v3, ?_, v5⟩, ?_⟩ (by omega)
      · unfold X2 j_PalaceReader_readRug_144 j_PalaceReader_readRug_159
        rw [y1, b2s, if_neg (by decide), z1, b2s, if_neg (by rw [iI_lt (by omega) (by omega)]; omega), l1, b2s, if_neg (by rw [iI_eq (by omega) (by omega)]; omega)]
      · have e1 := m_rc_word (c := c) (w := w) hT hτ hk (i := 2) (by decide) h n1
        have e2 := m_rc_from (c := c) hT hτ n2 g1 hw1.2 hc (lo := 0) (hi' := 39) (by omega) (by omega) hN o1
        have e3 : b_M_readsCarpet_46 (iI (c : Int)) (iI 2) (MI τ bs p q t w) = some (.inl (iI 3, MI τ bs p3 q3 t3 (lay w c (mvN bs p2 (q2 - p2))))) := e1.trans e2
        rw [Mc_go e3, Mc_end]
      · rw [lay_1]
        have := hg.2
        omega
      · rw [lay_1, lay_hd w c _ (by decide) (by decide)]
        exact hg.2
    · refine Rs.fail n2 y2 y3.x4 ?_ (fun τ hτ => ?_) (w' := w)
      · unfold X2 j_PalaceReader_readRug_144 j_PalaceReader_readRug_159
        rw [y1, b2s, if_neg (by decide), x_pn_no y2 n2 (a := 0) (b := 39) (by omega) (by omega) hN, b2s, if_pos (by decide), if_pos rfl]
      · have e1 := m_rc_word (c := c) (w := w) hT hτ hk (i := 2) (by decide) h n1
        have e2 := m_rc_bad (c := c) (τ := τ) (w := w) n2 (i := iI 2) (lo := 0) (hi := 39) (by omega) (by omega) hN
        have e3 : b_M_readsCarpet_46 (iI (c : Int)) (iI 2) (MI τ bs p q t w) = some (.inr (.inl (MI τ bs p2 q2 t2 w))) := e1.trans e2
        rw [Mc_no e3]
  · refine Rs.good hk hX Ag.rf ?_ (fun τ hτ => ?_) hW hg.gp hb
    · unfold X2 j_PalaceReader_readRug_144 j_PalaceReader_readRug_159
      rw [x_pw_no hT hX hk (by decide) h, b2s, if_pos rfl, if_pos (by decide), if_neg (by decide)]
    · have e1 : b_M_readsCarpet_46 (iI (c : Int)) (iI 2) (MI τ bs p q t w) = some (.inl (iI 3, MI τ bs p q t w)) := m_rc_no (c := c) (τ := τ) (w := w) hk (i := 2) (by decide) h
      rw [Mc_go e1, Mc_end]
theorem setF_self {f : Nat} (hf : f < 7) {x : Int} (h : rug w c f = x) : setRug w c (up (rug w c) f x) = w := by
  rw [← up_set hf, ← h]
  exact up_self
theorem gq_set (hg : GQ n w) (hc : c < mny w) {f : Nat} {x : Int} (hf : (f = 2 ∧ 1 ≤ x ∧ x ≤ 20) ∨ (f = 3 ∧ 0 ≤ x ∧ x ≤ 99)) : GQ n (setRug w c (up (rug w c) f x)) := by
  refine ⟨hg.1.set hc ((hg.1.1.rg hc).set (by omega) (by omega) (by omega) (by omega) (by omega) (by omega) (by omega)) (fun z => ⟨by rw [up_ne (by omega)] at z; exact z, up_ne (by omega)⟩), ?_⟩
  rw [setRug_hd (by decide), setRug_hd (by decide)]
  exact hg.2
theorem st1 (hT : Tx len bs) (hn9 : n < 900) (hX : XI σ len bs p q t) (hk : TK len bs p q t) (hW : XW σ 2 w) (hg : GQ n w) (hc : c < mny w) (h3 : rug w c 3 = 50) (hb : b ≤ p) : Rs len bs n (X1 c) (Mc (iI (c : Int)) (m + 3) (iI 1)) σ p q t w b := by
  have g1 := hg.1.1
  have hm8 := mny_le g1
  by_cases h : t = 1 ∧ wvN bs p (q - p) = kc 10
  · obtain ⟨p2, q2, t2, n1, n2, n3⟩ := hk.nx
    obtain ⟨σ2, y1, y2, y3⟩ := x_pw_yes hT hX hk (k := 10) (by decide) h n1
    have hpq := hk.1
    by_cases hN : NU bs p2 q2 t2 0 99
    · obtain ⟨p3, q3, t3, o1, o2, o3⟩ := n2.nx
      have hr := nu_rg n2 hN
      have hpq2 := n2.1
      obtain ⟨σ3, z1, z2, z3⟩ := x_pn_yes hT y2 n2 (a := 0) (b := 99) (by omega) (by omega) hN o1
      have hxw := xw_setF ((hW.p4 y3).p4 z3) (c := c) (f := 3) (by omega) (mvN bs p2 (q2 - p2))
      refine Rs.step (st2 (m := m) (b := b) hT hn9 (z2.pw ag_rug) o2 hxw (gq_set hg hc (Or.inr ⟨rfl, hN.2⟩)) (by rw [mny_hd (fun i hi => setRug_hd hi)]; exact hc) (by omega)) ?_ ((y3.x4.tr z3.x4).tr ag_rug.xw) (fun τ hτ => ?_)
      · unfold X1
        rw [y1, b2s, if_neg (by decide), z1, b2s, j109_ok hr]
      · have e1 := m_rc_word (c := c) (w := w) hT hτ hk (i := 1) (by decide) h n1
        have e2 := m_rc_ok (c := c) (w := w) hT hτ n2 (by omega) (i := 1) (by decide) (lo := 0) (hi' := 99) (by omega) (by omega) hN o1
        have e3 : b_M_readsCarpet_46 (iI (c : Int)) (iI 1) (MI τ bs p q t w) = some (.inl (iI 2, MI τ bs p3 q3 t3 (setRug w c (up (rug w c) 3 (mvN bs p2 (q2 - p2)))))) := e1.trans e2
        rw [Mc_go e3]
    · refine Rs.fail n2 (y2.pw ag_rug) (y3.x4.tr ag_rug.xw) (σ' := upI σ2 2 2 c 3 (iI (-2))) ?_ (fun τ hτ => ?_) (w' := w)
      · unfold X1
        rw [y1, b2s, if_neg (by decide), x_pn_no y2 n2 (a := 0) (b := 99) (by omega) (by omega) hN, b2s, j109_bad]
      · have e1 := m_rc_word (c := c) (w := w) hT hτ hk (i := 1) (by decide) h n1
        have e2 := m_rc_bad (c := c) (τ := τ) (w := w) n2 (i := iI 1) (lo := 0) (hi := 99) (by omega) (by omega) hN
        have e3 : b_M_readsCarpet_46 (iI (c : Int)) (iI 1) (MI τ bs p q t w) = some (.inr (.inl (MI τ bs p2 q2 t2 w))) := e1.trans e2
        rw [Mc_no e3]
  · have hxw := xw_setF hW (c := c) (f := 3) (by omega) 50
    rw [setF_self (by decide) h3] at hxw
    refine Rs.step (st2 (m := m) (b := b) hT hn9 (hX.pw ag_rug) hk hxw hg hc hb) ?_ ag_rug.xw (fun τ hτ => ?_)
    · unfold X1
      rw [x_pw_no hT hX hk (by decide) h, b2s, if_pos rfl, j109_ok (by omega)]
    · have e1 : b_M_readsCarpet_46 (iI (c : Int)) (iI 1) (MI τ bs p q t w) = some (.inl (iI 2, MI τ bs p q t w)) := m_rc_no (c := c) (τ := τ) (w := w) hk (i := 1) (by decide) h
      rw [Mc_go e1]
theorem st0 (hT : Tx len bs) (hn9 : n < 900) (hX : XI σ len bs p q t) (hk : TK len bs p q t) (hW : XW σ 2 w) (hg : GQ n w) (hc : c < mny w) (h2 : rug w c 2 = 8) (h3 : rug w c 3 = 50) (hb : b ≤ p) : Rs len bs n (X0 c) (Mc (iI (c : Int)) (m + 4) (iI 0)) σ p q t w b := by
  have g1 := hg.1.1
  have hm8 := mny_le g1
  by_cases h : t = 1 ∧ wvN bs p (q - p) = kc 9
  · obtain ⟨p2, q2, t2, n1, n2, n3⟩ := hk.nx
    obtain ⟨σ2, y1, y2, y3⟩ := x_pw_yes hT hX hk (k := 9) (by decide) h n1
    have hpq := hk.1
    by_cases hN : NU bs p2 q2 t2 1 20
    · obtain ⟨p3, q3, t3, o1, o2, o3⟩ := n2.nx
      have hr := nu_rg n2 hN
      have hpq2 := n2.1
      obtain ⟨σ3, z1, z2, z3⟩ := x_pn_yes hT y2 n2 (a := 1) (b := 20) (by omega) (by omega) hN o1
      have hxw := xw_setF ((hW.p4 y3).p4 z3) (c := c) (f := 2) (by omega) (mvN bs p2 (q2 - p2))
      refine Rs.step (st1 (m := m) (b := b) hT hn9 (z2.pw ag_rug) o2 hxw (gq_set hg hc (Or.inl ⟨rfl, hN.2⟩)) (by rw [mny_hd (fun i hi => setRug_hd hi)]; exact hc) (by rw [setRug_at (by decide), up_ne (by decide)]; exact h3) (by omega)) ?_ ((y3.x4.tr z3.x4).tr ag_rug.xw) (fun τ hτ => ?_)
      · unfold X0
        rw [y1, b2s, if_neg (by decide), z1, b2s, j71_ok hr]
      · have e1 := m_rc_word (c := c) (w := w) hT hτ hk (i := 0) (by decide) h n1
        have e2 := m_rc_ok (c := c) (w := w) hT hτ n2 (by omega) (i := 0) (by decide) (lo := 1) (hi' := 20) (by omega) (by omega) hN o1
        have e3 : b_M_readsCarpet_46 (iI (c : Int)) (iI 0) (MI τ bs p q t w) = some (.inl (iI 1, MI τ bs p3 q3 t3 (setRug w c (up (rug w c) 2 (mvN bs p2 (q2 - p2)))))) := e1.trans e2
        rw [Mc_go e3]
    · refine Rs.fail n2 (y2.pw ag_rug) (y3.x4.tr ag_rug.xw) (σ' := upI σ2 2 2 c 2 (iI (-2))) ?_ (fun τ hτ => ?_) (w' := w)
      · unfold X0
        rw [y1, b2s, if_neg (by decide), x_pn_no y2 n2 (a := 1) (b := 20) (by omega) (by omega) hN, b2s, j71_bad]
      · have e1 := m_rc_word (c := c) (w := w) hT hτ hk (i := 0) (by decide) h n1
        have e2 := m_rc_bad (c := c) (τ := τ) (w := w) n2 (i := iI 0) (lo := 1) (hi := 20) (by omega) (by omega) hN
        have e3 : b_M_readsCarpet_46 (iI (c : Int)) (iI 0) (MI τ bs p q t w) = some (.inr (.inl (MI τ bs p2 q2 t2 w))) := e1.trans e2
        rw [Mc_no e3]
  · have hxw := xw_setF hW (c := c) (f := 2) (by omega) 8
    rw [setF_self (by decide) h2] at hxw
    refine Rs.step (st1 (m := m) (b := b) hT hn9 (hX.pw ag_rug) hk hxw hg hc h3 hb) ?_ ag_rug.xw (fun τ hτ => ?_)
    · unfold X0
      rw [x_pw_no hT hX hk (by decide) h, b2s, if_pos rfl, j71_ok (by omega)]
    · have e1 : b_M_readsCarpet_46 (iI (c : Int)) (iI 0) (MI τ bs p q t w) = some (.inl (iI 1, MI τ bs p q t w)) := m_rc_no (c := c) (τ := τ) (w := w) hk (i := 0) (by decide) h
      rw [Mc_go e1]
theorem MI_20 {j : Nat} (hj : j < 66) : (MI τ bs p q t w).1 20 0 0 j = iI (w j) := sS_at hj
/-- a carpet, behind its kind -/
theorem rs_rug (hT : Tx len bs) (hn9 : n < 900) (hX : XI σ len bs p q t) (hk : TK len bs p q t) (hW : XW σ 2 w) (hg : GP n w) {k : Nat} (hk6 : k < 6) (hb : b ≤ q) : Rs len bs n (f_PalaceReader_readRug 2 k) (f_M_readsCarpet (iI (k : Int))) σ p q t w b := by
  have g1 := hg.1.1
  have hm8 := mny_le g1
  have hmn := mny_eq g1
  have hw2 := g1.2.2.1
  by_cases h8 : w 2 < 8
  · obtain ⟨p2, q2, t2, n1, n2, n3⟩ := hk.nx
    have hpq := hk.1
    obtain ⟨σ1, a1, a2, a3⟩ := x_addRug2 hW g1 h8 k 0
    obtain ⟨σ2, y1, y2, y3⟩ := x_next hT (hX.pw a3) n1
    by_cases hN : NU bs p2 q2 t2 0 3
    · obtain ⟨p3, q3, t3, o1, o2, o3⟩ := n2.nx
      have hr := nu_rg n2 hN
      have hpq2 := n2.1
      obtain ⟨σ3, z1, z2, z3⟩ := x_pn_yes hT y2 n2 (a := 0) (b := 3) (by omega) (by omega) hN o1
      have hxw := xw_setF ((a2.p4 y3).p4 z3) (c := mny w) (f := 1) (by omega) (mvN bs p2 (q2 - p2))
      have hxw2 : XW (upI σ3 2 2 (mny w) 1 (iI (mvN bs p2 (q2 - p2)))) 2 (addC w k (mvN bs p2 (q2 - p2))) := by
        refine hxw.cong (fun i hi => ?_) (fun c hc f hf => ?_)
        · rw [setRug_hd hi]
          by_cases e : i = 2
          · rw [e, addC_2, addC_2]
          · rw [addC_hd hi e, addC_hd hi e]
        · by_cases e : c = mny w
          · subst e
            rw [setRug_at hf, addC_at hf]
            unfold up
            by_cases e1 : f = 1
            · rw [if_pos e1, e1]; rfl
            · rw [if_neg e1, addC_at hf]
              unfold newR
              rw [if_neg e1, if_neg e1]
          · rw [setRug_ne e hf, addC_ne e hf, addC_ne e hf]
      have gq : GQ n (addC w k (mvN bs p2 (q2 - p2))) := by
        refine ⟨gv_add hg.1 h8 (by omega) hN.2, ?_⟩
        rw [addC_hd (by decide) (by decide), addC_2]
        have := hg.2
        omega
      refine Rs.step (st0 (m := 1996) (b := b) (c := mny w) hT hn9 (z2.pw ag_rug) o2 hxw2 gq (by rw [addC_mny g1]; omega) (by rw [addC_at (by decide)]; rfl) (by rw [addC_at (by decide)]; rfl) (by omega)) ?_ (((a3.xw.tr y3.x4).tr z3.x4).tr ag_rug.xw) (fun τ hτ => ?_)
      · unfold f_PalaceReader_readRug
        rw [a1, b2s, if_pos (by rw [iI_le (by omega) (by omega)]; omega), ← hmn, rd_N (by omega) (by decide), obs, y1, b2s, z1, b2s, if_neg (by rw [upI_1, if_pos ⟨rfl, rfl, rfl, rfl⟩, iI_eq (by omega) (by omega)]; omega)]
        rfl
      · unfold f_M_readsCarpet
        rw [rd_2, obs, MI_20 (by decide), if_neg (by rw [iI_eq (by omega) (by omega)]; omega), m_next hT hτ n1, b2s, m_tn_yes hT hτ n2 (a := 0) (b := 3) (by omega) (by omega) hN o1, b2s, if_pos (by rw [iI_le (by omega) (by omega)]; omega), obs, MI_20 (by decide)]
        have ea : f_M_addsCarpet (iI (k : Int)) (iI (mvN bs p2 (q2 - p2))) (MI τ bs p3 q3 t3 w) = some ((), MI τ bs p3 q3 t3 (addC w k (mvN bs p2 (q2 - p2)))) := by
          unfold MI
          exact m_adds g1 h8 _ _ _
        rw [ea, b2s, ← hmn]
        rfl
    · refine Rs.fail n2 (y2.pw ag_rug) ((a3.xw.tr y3.x4).tr ag_rug.xw) (σ' := upI σ2 2 2 (mny w) 1 (iI (-2))) ?_ (fun τ hτ => ?_) (w' := w)
      · unfold f_PalaceReader_readRug
        rw [a1, b2s, if_pos (by rw [iI_le (by omega) (by omega)]; omega), ← hmn, rd_N (by omega) (by decide), obs, y1, b2s, x_pn_no y2 n2 (a := 0) (b := 3) (by omega) (by omega) hN, b2s, if_pos (by rw [upI_1, if_pos ⟨rfl, rfl, rfl, rfl⟩])]
      · unfold f_M_readsCarpet
        rw [rd_2, obs, MI_20 (by decide), if_neg (by rw [iI_eq (by omega) (by omega)]; omega), m_next hT hτ n1, b2s, m_tn_no n2 (a := 0) (b := 3) (by omega) (by omega) hN, b2s, if_neg (by decide)]
  · refine Rs.fail hk hX Ag.rf ?_ (fun τ hτ => ?_) (w' := w)
    · unfold f_PalaceReader_readRug
      rw [x_addRug2_no hW g1 h8, b2s, if_neg (by decide)]
    · unfold f_M_readsCarpet
      rw [rd_2, obs, MI_20 (by decide), if_pos (by rw [iI_eq (by omega) (by omega)]; omega)]
end RUG
