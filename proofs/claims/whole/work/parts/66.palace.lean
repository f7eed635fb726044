/-! PURE: palace (side by side) -/
def XT (m : Nat) (k : Int32) (σ : Sg) : Option (Int32 × Sg) := Option.bind (lp (fun a => b_PalaceReader_tell_6 2 a.1 a.2) m (k, σ)) (fun z => Sum.elim (fun b16 => some ((iI (-1)) - (b16.1 4 0 0 2), b16)) (fun z => Sum.elim (fun b17 => some (b17.1, b17.2)) (fun z => Sum.elim (fun b18 => some ((iI (-1)) - (b18.1 4 0 0 2), b18)) (fun b19 => some ((iI (-1)) - (b19.1 4 0 0 2), b19)) z) z) z)
def MTp (m : Nat) (k v : Int32) (s : Sg) : Option (Int32 × Sg) := Option.bind (lp (fun a => b_M_palace_20 a.1 a.2.1 a.2.2) m (k, v, s)) (fun b23 => j_M_palace_47 b23.1 b23.2.1 b23.2.2)
def Mend (good : Bool) (k : Int32) (s : Sg) : Option (Int32 × Sg) := j_M_palace_63 k (if good = true then iI 1 else iI 0) s
section PAL
variable {len : Nat} {bs : Nat → Int} {n : Nat}
theorem mt_0 {p q : Nat} {t : Int} (h : 0 ≤ t ∧ t ≤ 4) : (iI (mtT bs t p q) = iI 0 ↔ t = 0) ∧ (iI (mtT bs t p q) = iI 3 ↔ t = 3) := by
  unfold mtT
  split
  · rename_i e
    rw [e.1]
    decide
  · rw [iI_eq (by omega) (by omega), iI_eq (by omega) (by omega)]
    exact ⟨Iff.rfl, Iff.rfl⟩
theorem lp_pal (hT : Tx len bs) (hn9 : n < 900) : ∀ (d p q : Nat) (t : Int) (w : Ro) (σ : Sg) (k : Nat), len < p + d → 1 ≤ k → 2 * k ≤ p + 2 → TK len bs p q t → XI σ len bs p q t → XW σ 2 w → GP n w → ∃ (good : Bool) (p' q' : Nat) (t' : Int) (w' : Ro) (σ' : Sg) (k' : Nat), XI σ' len bs p' q' t' ∧ Ag PX σ σ' ∧ (1 ≤ k' ∧ k' ≤ 120) ∧ p' ≤ len ∧ (∀ m, d < m → XT m (iI (k : Int)) σ = some (if good = true then iI (k' : Int) else iI (-1 - (p' : Int)), σ')) ∧ (∀ τ, MB τ len bs → ∃ v s, f_M_readsItem (MI τ bs p q t w) = some (v, s) ∧ ∀ m, d < m → MTp m (iI (k : Int)) v s = Mend good (iI (k' : Int)) (MI τ bs p' q' t' w')) ∧ (good = true → XW σ' 2 w' ∧ GP n w') := by
  intro d
  induction d with
  | zero =>
    intro p q t w σ k hd hk1 hk2 hk
    have := hk.1
    have := hk.2.1
    omega
  | succ d ih =>
    intro p q t w σ k hd hk1 hk2 hk hX hW hg
    have hl := hT.1
    have hpq := hk.1
    have hql := hk.2.1
    have hk60 : k ≤ 61 := by omega
    obtain ⟨ok, p1, q1, t1, w1, σ1, r1, r2, r3, r4, r5, r6⟩ := rs_item (b := p + 1) hT hn9 hX hk hW hg (fun e => hk.2.2.2.2.1 (by omega))
    have hp1 := r1.1
    have hq1 := r1.2.1
    have ht1 := r1.2.2.1
    obtain ⟨mt0, mt3⟩ := mt_0 (bs := bs) (p := p1) (q := q1) ht1
    cases ok with
    | false =>
      refine ⟨false, p1, q1, t1, w1, σ1, k, r2, r3, by omega, by omega, fun m hm => ?_, fun τ hτ => ⟨_, _, r5 τ hτ, fun m hm => ?_⟩, fun z => absurd z (by decide)⟩
      · obtain ⟨m', rfl⟩ : ∃ m', m = m' + 1 := ⟨m - 1, by omega⟩
        have hb : b_PalaceReader_tell_6 2 (iI (k : Int)) σ = some (.inr (.inl σ1)) := by
          unfold b_PalaceReader_tell_6
          rw [if_neg (by rw [iI_lt (by omega) (by omega)]; omega), r4, b2s, if_pos (show (if false = true then iI 1 else iI 0) = iI 0 by decide)]
        unfold XT
        rw [lp_inr (body := fun a => b_PalaceReader_tell_6 2 a.1 a.2) (a := (iI (k : Int), σ)) hb, obs]
        show some ((iI (-1)) - (σ1.1 4 0 0 2), σ1) = _
        rw [r2.2.2.1, iI_sub, if_neg (by decide)]
      · obtain ⟨m', rfl⟩ : ∃ m', m = m' + 1 := ⟨m - 1, by omega⟩
        have hb : b_M_palace_20 (iI (k : Int)) (if false = true then iI 1 else iI 0) (MI τ bs p1 q1 t1 w1) = some (.inr (iI (k : Int), iI 0, MI τ bs p1 q1 t1 w1)) := by
          unfold b_M_palace_20
          rw [if_neg (show ¬ false = true by decide), if_pos rfl]
        unfold MTp
        rw [lp_inr (body := fun a => b_M_palace_20 a.1 a.2.1 a.2.2) (a := (iI (k : Int), (if false = true then iI 1 else iI 0), MI τ bs p1 q1 t1 w1)) hb, obs]
        unfold j_M_palace_47 Mend
        rw [if_pos rfl, if_neg (by decide)]
    | true =>
      obtain ⟨s1, s2, s3⟩ := r6 rfl
      by_cases e0 : t1 = 0
      · refine ⟨true, p1, q1, t1, w1, σ1, k, r2, r3, by omega, by omega, fun m hm => ?_, fun τ hτ => ⟨_, _, r5 τ hτ, fun m hm => ?_⟩, fun _ => ⟨s1, s2⟩⟩
        · obtain ⟨m', rfl⟩ : ∃ m', m = m' + 1 := ⟨m - 1, by omega⟩
          have hb : b_PalaceReader_tell_6 2 (iI (k : Int)) σ = some (.inr (.inr (.inl (iI (k : Int), σ1)))) := by
            unfold b_PalaceReader_tell_6
            rw [if_neg (by rw [iI_lt (by omega) (by omega)]; omega), r4, b2s, if_pos rfl, if_neg (by decide), r2.2.1, if_pos (by rw [e0])]
          unfold XT
          rw [lp_inr (body := fun a => b_PalaceReader_tell_6 2 a.1 a.2) (a := (iI (k : Int), σ)) hb, obs]
          rw [if_pos rfl]
          rfl
        · obtain ⟨m', rfl⟩ : ∃ m', m = m' + 1 := ⟨m - 1, by omega⟩
          have hb : b_M_palace_20 (iI (k : Int)) (if true = true then iI 1 else iI 0) (MI τ bs p1 q1 t1 w1) = some (.inr (iI (k : Int), iI 1, MI τ bs p1 q1 t1 w1)) := by
            unfold b_M_palace_20
            rw [if_pos (show true = true from rfl), if_neg (by decide), MI_2, if_neg (fun z => absurd (mt3.mp z) (by omega))]
          unfold MTp
          rw [lp_inr (body := fun a => b_M_palace_20 a.1 a.2.1 a.2.2) (a := (iI (k : Int), (if true = true then iI 1 else iI 0), MI τ bs p1 q1 t1 w1)) hb, obs]
          show j_M_palace_47 (iI (k : Int)) (iI 1) (MI τ bs p1 q1 t1 w1) = _
          unfold j_M_palace_47 Mend
          rw [if_neg (by decide), MI_2, if_pos (mt0.mpr e0), if_pos rfl]
      · by_cases e3 : t1 = 3
        · obtain ⟨p2, q2, t2, n1, n2, n3⟩ := r1.nx
          have hp1q1 := r1.2.2.2.2.1 e0
          obtain ⟨σ2, y1, y2, y3⟩ := x_next hT r2 n1
          obtain ⟨good, p', q', t', w', σ', k', u1, u2, u3, u4, u5, u6, u7⟩ := ih p2 q2 t2 w1 σ2 (k + 1) (by omega) (by omega) (by omega) n2 y2 (s1.p4 y3) s2
          refine ⟨good, p', q', t', w', σ', k', u1, (r3.tr y3.x4).tr u2, u3, u4, fun m hm => ?_, fun τ hτ => ⟨_, _, r5 τ hτ, fun m hm => ?_⟩, u7⟩
          · obtain ⟨m', rfl⟩ : ∃ m', m = m' + 1 := ⟨m - 1, by omega⟩
            have hb : b_PalaceReader_tell_6 2 (iI (k : Int)) σ = some (.inl (iI ((k + 1 : Nat) : Int), σ2)) := by
              unfold b_PalaceReader_tell_6
              rw [if_neg (by rw [iI_lt (by omega) (by omega)]; omega), r4, b2s, if_pos rfl, if_neg (by decide), r2.2.1, if_neg (by rw [iI_eq (by omega) (by omega)]; exact e0), if_pos (by rw [e3]), y1, b2s, iI_add]
              rfl
            have hu := u5 m' (by omega)
            unfold XT at hu ⊢
            rw [lp_inl (body := fun a => b_PalaceReader_tell_6 2 a.1 a.2) (a := (iI (k : Int), σ)) hb]
            exact hu
          · obtain ⟨m', rfl⟩ : ∃ m', m = m' + 1 := ⟨m - 1, by omega⟩
            obtain ⟨v, s, f1, f2⟩ := u6 τ hτ
            have hb : b_M_palace_20 (iI (k : Int)) (if true = true then iI 1 else iI 0) (MI τ bs p1 q1 t1 w1) = some (.inl (iI ((k + 1 : Nat) : Int), v, s)) := by
              unfold b_M_palace_20
              rw [if_pos (show true = true from rfl), if_neg (by decide), MI_2, if_pos (mt3.mpr e3), m_next hT hτ n1, b2s, f1, b2s, iI_add]
              rfl
            have hu := f2 m' (by omega)
            unfold MTp at hu ⊢
            rw [lp_inl (body := fun a => b_M_palace_20 a.1 a.2.1 a.2.2) (a := (iI (k : Int), (if true = true then iI 1 else iI 0), MI τ bs p1 q1 t1 w1)) hb]
            exact hu
        · refine ⟨false, p1, q1, t1, w1, σ1, k, r2, r3, by omega, by omega, fun m hm => ?_, fun τ hτ => ⟨_, _, r5 τ hτ, fun m hm => ?_⟩, fun z => absurd z (by decide)⟩
          · obtain ⟨m', rfl⟩ : ∃ m', m = m' + 1 := ⟨m - 1, by omega⟩
            have hb : b_PalaceReader_tell_6 2 (iI (k : Int)) σ = some (.inr (.inr (.inr (.inl σ1)))) := by
              unfold b_PalaceReader_tell_6
              rw [if_neg (by rw [iI_lt (by omega) (by omega)]; omega), r4, b2s, if_pos rfl, if_neg (by decide), r2.2.1, if_neg (by rw [iI_eq (by omega) (by omega)]; exact e0), if_neg (by rw [iI_eq (by omega) (by omega)]; exact e3)]
            unfold XT
            rw [lp_inr (body := fun a => b_PalaceReader_tell_6 2 a.1 a.2) (a := (iI (k : Int), σ)) hb, obs]
            show some ((iI (-1)) - (σ1.1 4 0 0 2), σ1) = _
            rw [r2.2.2.1, iI_sub, if_neg (by decide)]
          · obtain ⟨m', rfl⟩ : ∃ m', m = m' + 1 := ⟨m - 1, by omega⟩
            have hb : b_M_palace_20 (iI (k : Int)) (if true = true then iI 1 else iI 0) (MI τ bs p1 q1 t1 w1) = some (.inr (iI (k : Int), iI 1, MI τ bs p1 q1 t1 w1)) := by
              unfold b_M_palace_20
              rw [if_pos (show true = true from rfl), if_neg (by decide), MI_2, if_neg (fun z => e3 (mt3.mp z))]
            unfold MTp
            rw [lp_inr (body := fun a => b_M_palace_20 a.1 a.2.1 a.2.2) (a := (iI (k : Int), (if true = true then iI 1 else iI 0), MI τ bs p1 q1 t1 w1)) hb, obs]
            show j_M_palace_47 (iI (k : Int)) (iI 1) (MI τ bs p1 q1 t1 w1) = _
            unfold j_M_palace_47 Mend
            rw [if_neg (by decide), MI_2, if_neg (fun z => e0 (mt0.mp z)), if_neg (by decide)]
end PAL
def Pp : Nat → Nat → Nat → Prop := fun t i j => PWl t i j ∨ t = 4 ∨ t = 6
theorem Inv.pal {n : Nat} {σ σ2 : Sg} {w : Ro} (h : Inv n σ) (ha : Ag Pp σ σ2) (h60 : σ2.1 6 0 0 0 = σ.1 6 0 0 0) (h4 : σ2.1 4 0 0 0 = iI 0) (h61 : σ2.1 6 0 0 1 = iI 0) (hM : ∀ j, j < 66 → σ2.1 20 0 0 j = iI (w j)) (hX : XW σ2 0 w) (hG : GV (n + 1) w) : Inv (n + 1) σ2 := by
  obtain ⟨v, kp, len, bs, h1, h2, h3, h4', h5⟩ := h
  refine ⟨w, kp, 0, bs, ⟨hM, hX, hG⟩, ?_, h3.ag ha (by simp [Pp, PWl]) (by simp [Pp, PWl]), ⟨h4, h61, by omega, fun j hj => absurd hj (Nat.not_lt_zero j)⟩, h5.ag ha (by simp [Pp, PWl]) (by simp [Pp, PWl]) (by simp [Pp, PWl]) (by simp [Pp, PWl]) (by simp [Pp, PWl])⟩
  have k := h2.mono (show n ≤ n + 1 by omega)
  unfold IK
  rw [h60, (ha 0 0 0 (by simp [Pp, PWl])).1, (ha 21 0 0 (by simp [Pp, PWl])).1]
  exact ⟨k.1, k.2.imp id (fun q => ⟨q.1, q.2.1, q.2.2.1.ag ha (by simp [Pp, PWl]) (by simp [Pp, PWl]) (by simp [Pp, PWl]), q.2.2.2⟩)⟩
theorem PX_Pp {t i j : Nat} (h : PX t i j) : Pp t i j := by
  unfold PX PW P1 at h
  unfold Pp PWl
  omega
theorem both_palace (n : Nat) (hn : n < 900) : Both n f_X_palace f_M_palace := by
  intro σ h
  obtain ⟨v, kp, len, bs, h1, h2, h3, h4, h5⟩ := id h
  have g1 := h1.2.2.1
  have gp : GP n v := ⟨h1.2.2.mono (by omega), by have := h1.2.2.2.2.2.1; have := g1.2.2.1; omega⟩
  have hT : Tx len bs := ⟨h4.2.2.1, fun j hj => (h4.2.2.2 j hj).2.2⟩
  obtain ⟨σa, q1, q2, q2', q3⟩ := x_worldBecome (w := 2) h1.2.1 g1 (by decide)
  have e4 : σa.1 4 0 0 = σ.1 4 0 0 := (q3 4 0 0 (by simp [PW])).1
  have e15 : σa.1 15 0 0 = σ.1 15 0 0 := (q3 15 0 0 (by simp [PW])).1
  have hXB : XB (upI σa 4 0 0 3 (iI 0)) len bs := by
    refine ⟨?_, fun j hj => ?_⟩
    · rw [upI_1, if_neg (by decide), e4]; exact h4.1
    · rw [upI_1, if_neg (fun z => absurd z.1 (by decide)), e15]; exact (h4.2.2.2 j hj).1
  obtain ⟨p, q, t, n1⟩ := tf_ex (len := len) (bs := bs) (q0 := 0) (by omega)
  obtain ⟨σb, y1, y2, y3⟩ : ∃ σ', f_Tape_toNextToken (upI σa 4 0 0 3 (iI 0)) = some ((), σ') ∧ XI σ' len bs p q t ∧ Ag (P1 4 0 0) (upI σa 4 0 0 3 (iI 0)) σ' := by
    have hx := x_tok hT hXB n1 ((upI σa 4 0 0 3 (iI 0)).1 4 0 0 1) ((upI σa 4 0 0 3 (iI 0)).1 4 0 0 2) ((upI σa 4 0 0 3 (iI 0)).1 4 0 0 4)
    have e3 : (upI σa 4 0 0 3 (iI 0)).1 4 0 0 3 = iI ((0 : Nat) : Int) := by rw [upI_1, if_pos ⟨rfl, rfl, rfl, rfl⟩]; rfl
    rw [← e3, xst_self] at hx
    exact ⟨_, hx, ⟨⟨hXB.1, hXB.2⟩, rfl, rfl, rfl, rfl⟩, xst_ag⟩
  have y4 : Ag (P1 4 0 0) σa σb := (Ag.upI ⟨rfl, rfl, rfl⟩).tr y3
  obtain ⟨good, p', q', t', w', σc, k', u1, u2, u3, u4, u5, u6, u7⟩ := lp_pal hT hn (len + 1) p q t v σb 1 (by omega) (by omega) (by omega) n1.tk y2 (q2.p4 y4) gp
  have hl := hT.1
  have hFU : len + 1 < FU := Nat.lt_of_le_of_lt (show len + 1 ≤ 121 by omega) (by decide)
  have hag : Ag PX σ σc := (q3.xw.tr y4.x4).tr u2
  have htell : f_PalaceReader_tell 2 σa = some (if good = true then iI (k' : Int) else iI (-1 - (p' : Int)), σc) := by
    unfold f_PalaceReader_tell f_Tape_toFirstToken
    rw [y1, b2s, b2s]
    exact u5 FU hFU
  have hMB : ∀ τ : Sg, τ.1 6 0 0 1 = σ.1 6 0 0 1 → τ.1 24 0 0 = σ.1 24 0 0 → MB τ len bs := fun τ e1 e2 => ⟨by rw [e1]; exact h4.2.1, fun j hj => by rw [e2]; exact (h4.2.2.2 j hj).2.1⟩
  -- the reference, from a state of the class's
  have hMf : ∀ σ1 : Sg, σ1.1 20 = σ.1 20 → σ1.1 6 0 0 1 = σ.1 6 0 0 1 → σ1.1 24 0 0 = σ.1 24 0 0 → f_M_palace σ1 = Mend good (iI (k' : Int)) (MI (aS σ1 v) bs p' q' t' w') := by
    intro σ1 e20 e61 e24
    have hB : MB (aS σ1 v) len bs := hMB _ (by rw [show (aS σ1 v).1 6 = σ1.1 6 from r66_ne (by decide)]; exact e61) (by rw [show (aS σ1 v).1 24 = σ1.1 24 from r66_ne (by decide)]; exact e24)
    obtain ⟨v7, s8, f1, f2⟩ := u6 _ hB
    have e : f_M_palace (sS σ1 v) = Mend good (iI (k' : Int)) (MI (aS σ1 v) bs p' q' t' w') := by
      unfold f_M_palace
      rw [m_aside, b2s, asS, m_next0 hT hB n1, b2s, f1, b2s]
      exact f2 FU hFU
    rw [MS.keep h1 e20] at e
    exact e
  cases good with
  | false =>
    have a1 : Ag PX σ (upI σc 4 0 0 0 (iI 0)) := hag.tr (Ag.upI (Or.inr ⟨rfl, rfl, rfl⟩))
    have c20 : (upI σc 4 0 0 0 (iI 0)).1 20 = σ.1 20 := by
      funext i j k
      rw [(a1 20 i j (by simp [PX, PW, P1])).1]
    have hm := hMf (upI σc 4 0 0 0 (iI 0)) c20 (by rw [(a1 6 0 0 (by simp [PX, PW, P1])).1]) (a1 24 0 0 (by simp [PX, PW, P1])).1
    generalize hτ2 : upI (mst (aS (upI σc 4 0 0 0 (iI 0)) v) (iI (mtT bs t' p' q')) (iI (p' : Int)) (iI (q' : Int)) (lI (mvT bs t' p' q'))) 6 0 0 1 (iI 0) = τ2 at hm
    have a2 : Ag Pp σ τ2 := by
      rw [← hτ2]
      exact (((a1.mono (fun t i j z => PX_Pp z)).tr (Ag.aS (Or.inl (Or.inr (Or.inl rfl))))).tr (mst_ag.mono (fun t i j z => Or.inr (Or.inr z.1)))).tr (Ag.upI (Or.inr (Or.inr rfl)))
    have t20 : ∀ j, j < 66 → τ2.1 20 0 0 j = iI (v j) := fun j hj => by
      rw [← hτ2, upI_1, if_neg (fun z => absurd z.1 (by decide)), (mst_ag 20 0 0 (by simp [P1])).1, show (aS (upI σc 4 0 0 0 (iI 0)) v).1 20 = (upI σc 4 0 0 0 (iI 0)).1 20 from r66_ne (by decide), c20]
      exact h1.1 j hj
    have t22 : ∀ j, j < 66 → τ2.1 22 0 0 j = iI (v j) := fun j hj => by
      rw [← hτ2, upI_1, if_neg (fun z => absurd z.1 (by decide)), (mst_ag 22 0 0 (by simp [P1])).1]
      exact r66_at hj
    have es : sS τ2 v = τ2 := r66_self t20
    have ea : aS τ2 v = τ2 := r66_self t22
    have hback : f_M_laysBack (upI (MI (aS (upI σc 4 0 0 0 (iI 0)) v) bs p' q' t' w') 6 0 0 1 (iI 0)) = some ((), τ2) := by
      have e0 : upI (MI (aS (upI σc 4 0 0 0 (iI 0)) v) bs p' q' t' w') 6 0 0 1 (iI 0) = sS τ2 w' := by
        rw [← hτ2]
        unfold MI
        refine sg_ext ?_ rfl
        intro a b c d
        by_cases ha : a = 20
        · subst ha
          rw [upI_1, if_neg (fun z => absurd z.1 (by decide))]
          rfl
        · rw [show (sS (upI (mst (aS (upI σc 4 0 0 0 (iI 0)) v) (iI (mtT bs t' p' q')) (iI (p' : Int)) (iI (q' : Int)) (lI (mvT bs t' p' q'))) 6 0 0 1 (iI 0)) w').1 a = (upI (mst (aS (upI σc 4 0 0 0 (iI 0)) v) (iI (mtT bs t' p' q')) (iI (p' : Int)) (iI (q' : Int)) (lI (mvT bs t' p' q'))) 6 0 0 1 (iI 0)).1 a from r66_ne ha, upI_1, upI_1, show (sS (mst (aS (upI σc 4 0 0 0 (iI 0)) v) (iI (mtT bs t' p' q')) (iI (p' : Int)) (iI (q' : Int)) (lI (mvT bs t' p' q'))) w').1 a = (mst (aS (upI σc 4 0 0 0 (iI 0)) v) (iI (mtT bs t' p' q')) (iI (p' : Int)) (iI (q' : Int)) (lI (mvT bs t' p' q'))).1 a from r66_ne ha]
      have eb := m_back τ2 w' v
      rw [asS, ea, asS, ea, es] at eb
      rw [e0]
      exact eb
    refine ⟨iI (-1 - (p' : Int)), upI σc 4 0 0 0 (iI 0), τ2, ?_, ?_, h.pal a2 ?_ ?_ ?_ t20 ?_ (h1.2.2.mono (by omega))⟩
    · unfold f_X_palace
      rw [q1, b2s, htell, b2s, if_neg (show ¬ false = true by decide), if_pos (by rw [iI_lt (by omega) (by omega)]; omega)]
    · rw [hm]
      unfold Mend j_M_palace_63
      rw [if_neg (show ¬ false = true by decide), if_pos rfl, hback, b2s]
      have e3 : τ2.1 6 0 0 3 = iI (p' : Int) := by rw [← hτ2]; rfl
      rw [e3, iI_sub]
    · rw [← hτ2]
      show (aS (upI σc 4 0 0 0 (iI 0)) v).1 6 0 0 0 = _
      rw [show (aS (upI σc 4 0 0 0 (iI 0)) v).1 6 = (upI σc 4 0 0 0 (iI 0)).1 6 from r66_ne (by decide), (a1 6 0 0 (by simp [PX, PW, P1])).1]
    · rw [← hτ2]
      show (aS (upI σc 4 0 0 0 (iI 0)) v).1 4 0 0 0 = _
      rw [show (aS (upI σc 4 0 0 0 (iI 0)) v).1 4 = (upI σc 4 0 0 0 (iI 0)).1 4 from r66_ne (by decide), upI_1, if_pos ⟨rfl, rfl, rfl, rfl⟩]
    · rw [← hτ2, upI_1, if_pos ⟨rfl, rfl, rfl, rfl⟩]
    · have hW1 : XW (upI σc 4 0 0 0 (iI 0)) 0 v := h1.2.1.ag a1 (by simp [PX, PW, P1]) (by simp [PX, PW, P1]) (by simp [PX, PW, P1])
      have a3 : Ag (fun t _ _ => t = 22 ∨ t = 6) (upI σc 4 0 0 0 (iI 0)) τ2 := by
        rw [← hτ2]
        exact ((Ag.aS (Or.inl rfl)).tr (mst_ag.mono (fun t i j z => Or.inr z.1))).tr (Ag.upI (Or.inr rfl))
      exact hW1.ag a3 (by simp) (by simp) (by simp)
  | true =>
    obtain ⟨s1, s2⟩ := u7 rfl
    have a0 : Ag (P1 4 0 0) σc (upI σc 4 0 0 0 (iI 0)) := Ag.upI ⟨rfl, rfl, rfl⟩
    obtain ⟨σ1, b1, b2', b3, b4⟩ := x_worldBecome (w := 0) (s1.p4 a0) s2.1.1 (by decide)
    have a1 : Ag Pp σ σ1 := ((hag.tr a0.x4).mono (fun t i j z => PX_Pp z)).tr (b4.mono (fun t i j z => Or.inl (by unfold PW at z; unfold PWl; omega)))
    have a6 : Ag (fun t i j => PX t i j ∨ PW 0 t i j) σ σ1 := ((hag.tr a0.x4).mono (fun t i j z => Or.inl z)).tr (b4.mono (fun t i j z => Or.inr z))
    have c20 : σ1.1 20 = σ.1 20 := by
      funext i j k
      rw [(a6 20 i j (by simp [PX, PW, P1])).1]
    have c6 : σ1.1 6 0 0 = σ.1 6 0 0 := (a6 6 0 0 (by simp [PX, PW, P1])).1
    have hm := hMf σ1 c20 (by rw [c6]) (a6 24 0 0 (by simp [PX, PW, P1])).1
    have aM : Ag (fun t _ _ => t = 22 ∨ t = 6 ∨ t = 20) σ1 (upI (MI (aS σ1 v) bs p' q' t' w') 6 0 0 1 (iI 0)) := by
      unfold MI
      have b5 : Ag (fun t _ _ => t = 22 ∨ t = 6 ∨ t = 20) σ1 (aS σ1 v) := Ag.aS (Or.inl rfl)
      have b6 : Ag (fun t _ _ => t = 22 ∨ t = 6 ∨ t = 20) (aS σ1 v) (mst (aS σ1 v) (iI (mtT bs t' p' q')) (iI (p' : Int)) (iI (q' : Int)) (lI (mvT bs t' p' q'))) := mst_ag.mono (fun t i j z => Or.inr (Or.inl z.1))
      exact ((b5.tr b6).tr (Ag.sS (Or.inr (Or.inr rfl)))).tr (Ag.upI (Or.inr (Or.inl rfl)))
    refine ⟨iI (k' : Int), σ1, upI (MI (aS σ1 v) bs p' q' t' w') 6 0 0 1 (iI 0), ?_, ?_, h.pal (w := w') (a1.tr (aM.mono (fun t i j z => by unfold Pp PWl; omega))) ?_ ?_ ?_ (fun j hj => ?_) (b2'.ag aM (by simp) (by simp) (by simp)) s2.1⟩
    · unfold f_X_palace
      rw [q1, b2s, htell, b2s, if_pos (show true = true from rfl), if_neg (by rw [iI_lt (by omega) (by omega)]; omega), b1, b2s]
    · rw [hm]
      unfold Mend j_M_palace_63
      rw [if_pos (show true = true from rfl), if_neg (by decide)]
    · rw [upI_1, if_neg (by decide)]
      unfold MI
      rw [show (sS (mst (aS σ1 v) (iI (mtT bs t' p' q')) (iI (p' : Int)) (iI (q' : Int)) (lI (mvT bs t' p' q'))) w').1 6 = (mst (aS σ1 v) (iI (mtT bs t' p' q')) (iI (p' : Int)) (iI (q' : Int)) (lI (mvT bs t' p' q'))).1 6 from r66_ne (by decide)]
      show (aS σ1 v).1 6 0 0 0 = _
      rw [show (aS σ1 v).1 6 = σ1.1 6 from r66_ne (by decide), c6]
    · rw [(aM 4 0 0 (by simp)).1, (b4 4 0 0 (by simp [PW])).1, upI_1, if_pos ⟨rfl, rfl, rfl, rfl⟩]
    · rw [upI_1, if_pos ⟨rfl, rfl, rfl, rfl⟩]
    · rw [upI_1, if_neg (fun z => absurd z.1 (by decide))]
      exact MI_20 hj
