/-! PURE: words and numbers, on both sides -/
def wl (k : Nat) : List Int := ([[99, 97, 114, 112, 101, 116], [114, 117, 110, 110, 101, 114], [118, 101, 108, 118, 101, 116], [109, 97, 116], [115, 116, 97, 105, 114], [115, 104, 97, 103], [117, 112], [114, 97, 105, 110], [100, 114, 121], [108, 111, 110, 103], [112, 105, 108, 101], [102, 114, 111, 109]] : List (List Int)).getD k []
def wlF (k : Nat) : Nat → Int := fun i => (wl k).getD i 0
def kc (k : Nat) : Int := wvN (wlF k) 0 (lenK.getD k 0)
theorem wl_ch : ∀ k, k < 12 → ∀ j, j < lenK.getD k 0 → sCh k j = iI (wlF k j) ∧ 97 ≤ wlF k j ∧ wlF k j ≤ 122 := by decide +kernel
theorem kc_rg : ∀ k, k < 12 → 0 < kc k ∧ kc k ≤ 999999999 := by decide +kernel
theorem wv_pos {bs : Nat → Int} {p : Nat} : ∀ n : Nat, (∀ i, i < n → 97 ≤ bs (p + i) ∧ bs (p + i) ≤ 122) → 0 < n → 0 < wvN bs p n := by
  intro n h hn
  obtain ⟨m, rfl⟩ : ∃ m, n = m + 1 := ⟨n - 1, by omega⟩
  have hr := wvN_rg (bs := bs) (p := p) m (fun i hi => h i (by omega))
  have hm := h m (by omega)
  rw [wvN_succ]
  split <;> omega
theorem wv_cong {bs c : Nat → Int} {p r : Nat} : ∀ n : Nat, (∀ i, i < n → bs (p + i) = c (r + i)) → wvN bs p n = wvN c r n := by
  intro n
  induction n with
  | zero => intro _; rfl
  | succ n ih =>
    intro h
    rw [wvN_succ, wvN_succ, ih (fun i hi => h i (by omega)), h n (by omega)]
theorem wv_inj {bs c : Nat → Int} {p : Nat} : ∀ m n : Nat, (∀ i, i < n → 97 ≤ bs (p + i) ∧ bs (p + i) ≤ 122) → (∀ i, i < m → 97 ≤ c i ∧ c i ≤ 122) → wvN c 0 m ≤ 9999999999999 → wvN bs p n = wvN c 0 m → n = m ∧ ∀ i, i < m → bs (p + i) = c i := by
  intro m
  induction m with
  | zero =>
    intro n hb hc hl he
    have he : wvN bs p n = 0 := he
    by_cases e : n = 0
    · exact ⟨e, fun i hi => absurd hi (Nat.not_lt_zero i)⟩
    · have := wv_pos n hb (by omega)
      omega
  | succ m ih =>
    intro n hb hc hl he
    have hcm := hc m (by omega)
    have hrm := wvN_rg (bs := c) (p := 0) m (fun i hi => by rw [Nat.zero_add]; exact hc i (by omega))
    have hpm := wv_pos (bs := c) (p := 0) (m + 1) (fun i hi => by rw [Nat.zero_add]; exact hc i hi) (by omega)
    by_cases e : n = 0
    · subst e
      have he : (0 : Int) = wvN c 0 (m + 1) := he
      omega
    · obtain ⟨n', rfl⟩ : ∃ n', n = n' + 1 := ⟨n - 1, by omega⟩
      have hbn := hb n' (by omega)
      have hrn := wvN_rg (bs := bs) (p := p) n' (fun i hi => hb i (by omega))
      rw [wvN_succ, wvN_succ, Nat.zero_add] at he
      rw [wvN_succ, Nat.zero_add] at hl
      by_cases e1 : wvN c 0 m ≤ 9999999999999
      · rw [if_pos e1] at he hl
        by_cases e2 : wvN bs p n' ≤ 9999999999999
        · rw [if_pos e2] at he
          have e3 : wvN bs p n' = wvN c 0 m := by omega
          obtain ⟨r1, r2⟩ := ih n' (fun i hi => hb i (by omega)) (fun i hi => hc i (by omega)) e1 e3
          refine ⟨by omega, fun i hi => ?_⟩
          by_cases ei : i = m
          · rw [ei, ← r1]
            rw [← r1] at he
            rw [r1] at he
            rw [r1]
            have : bs (p + n') = c m := by
              have h9 : wvN bs p n' * 27 + bs (p + n') - 96 = wvN c 0 m * 27 + c m - 96 := by rw [r1]; exact he
              omega
            rw [r1] at this
            exact this
          · exact r2 i (by omega)
        · rw [if_neg e2] at he
          omega
      · rw [if_neg e1] at hl
        omega
def XI (σ : Sg) (len : Nat) (bs : Nat → Int) (p q : Nat) (t : Int) : Prop := XB σ len bs ∧ σ.1 4 0 0 1 = iI t ∧ σ.1 4 0 0 2 = iI (p : Int) ∧ σ.1 4 0 0 3 = iI (q : Int) ∧ σ.1 4 0 0 4 = iI (xvT bs t p q)
def MI (τ : Sg) (bs : Nat → Int) (p q : Nat) (t : Int) (w : Ro) : Sg := sS (mst τ (iI (mtT bs t p q)) (iI (p : Int)) (iI (q : Int)) (lI (mvT bs t p q))) w
/-- at a token -/
def TK (len : Nat) (bs : Nat → Int) (p q : Nat) (t : Int) : Prop := p ≤ q ∧ q ≤ len ∧ (0 ≤ t ∧ t ≤ 4) ∧ (t = 0 → p = len) ∧ (t ≠ 0 → p < q) ∧ (t = 1 → ∀ i, i < q - p → 97 ≤ bs (p + i) ∧ bs (p + i) ≤ 122) ∧ (t = 2 → ∀ i, i < q - p → 48 ≤ bs (p + i) ∧ bs (p + i) ≤ 57)
theorem TF.tk {len : Nat} {bs : Nat → Int} {q0 p q : Nat} {t : Int} (h : TF len bs q0 p q t) : TK len bs p q t := by
  obtain ⟨t1, t2, t3, t4, t5, t6, t7⟩ := h
  by_cases e : p = len
  · obtain ⟨r1, r2⟩ := t3 e
    exact ⟨by omega, by omega, by omega, fun _ => e, fun z => absurd r1 z, fun z => by omega, fun z => by omega⟩
  · have hp : p < len := by omega
    obtain ⟨r1, r2⟩ := t4 hp
    have hc := clT_rg (bs p)
    by_cases ht : t = 1 ∨ t = 2
    · obtain ⟨s1, s2, s3, s4⟩ := t6 hp ht
      exact ⟨by omega, s2, by omega, fun z => by omega, fun _ => s1, fun z i hi => clT_1.mp (by rw [s3 _ (by omega) (by omega)]; exact z), fun z i hi => clT_2.mp (by rw [s3 _ (by omega) (by omega)]; exact z)⟩
    · have := t7 hp ht
      exact ⟨by omega, by omega, by omega, fun z => by omega, fun _ => by omega, fun z => absurd (Or.inl z) ht, fun z => absurd (Or.inr z) ht⟩
section TOK
variable {σ τ : Sg} {len : Nat} {bs : Nat → Int} {p q p' q' : Nat} {t t' : Int} {w : Ro}
theorem x_next (hT : Tx len bs) (hX : XI σ len bs p q t) (hn : TF len bs q p' q' t') : ∃ σ', f_Tape_toNextToken σ = some ((), σ') ∧ XI σ' len bs p' q' t' ∧ Ag (P1 4 0 0) σ σ' := by
  have h := x_tok hT hX.1 hn (σ.1 4 0 0 1) (σ.1 4 0 0 2) (σ.1 4 0 0 4)
  rw [← hX.2.2.2.1, xst_self] at h
  exact ⟨_, h, ⟨⟨hX.1.1, hX.1.2⟩, rfl, rfl, rfl, rfl⟩, xst_ag⟩
theorem m_next (hT : Tx len bs) (hM : MB τ len bs) (hn : TF len bs q p' q' t') : f_M_nextToken (MI τ bs p q t w) = some ((), MI τ bs p' q' t' w) := by
  have hM2 : MB (sS τ w) len bs := by
    refine ⟨?_, fun j hj => ?_⟩
    · rw [show (sS τ w).1 6 = τ.1 6 from r66_ne (by decide)]; exact hM.1
    · rw [show (sS τ w).1 24 = τ.1 24 from r66_ne (by decide)]; exact hM.2 j hj
  unfold MI
  rw [← mst_sS, m_tok hT hM2 hn, mst_sS]
theorem m_next0 (hT : Tx len bs) (hM : MB τ len bs) (hn : TF len bs 0 p' q' t') : f_M_nextToken (upI (sS τ w) 6 0 0 4 (iI 0)) = some ((), MI τ bs p' q' t' w) := by
  have hM2 : MB (sS τ w) len bs := by
    refine ⟨?_, fun j hj => ?_⟩
    · rw [show (sS τ w).1 6 = τ.1 6 from r66_ne (by decide)]; exact hM.1
    · rw [show (sS τ w).1 24 = τ.1 24 from r66_ne (by decide)]; exact hM.2 j hj
  have h := m_tok hT hM2 hn ((sS τ w).1 6 0 0 2) ((sS τ w).1 6 0 0 3) ((sS τ w).2.1 6 0 0 0)
  have e : mst (sS τ w) ((sS τ w).1 6 0 0 2) ((sS τ w).1 6 0 0 3) (iI ((0 : Nat) : Int)) ((sS τ w).2.1 6 0 0 0) = upI (sS τ w) 6 0 0 4 (iI 0) := by
    have h3 := mst_self (σ := sS τ w)
    have h4 := mst_u4 (σ := sS τ w) (a := (sS τ w).1 6 0 0 2) (b := (sS τ w).1 6 0 0 3) (c := (sS τ w).1 6 0 0 4) (V := (sS τ w).2.1 6 0 0 0) (e := iI 0)
    rw [h3] at h4
    exact h4.symm
  rw [e, mst_sS] at h
  exact h
theorem x_isWord (hT : Tx len bs) (hX : XI σ len bs p q t) (hk : TK len bs p q t) {k : Nat} (hk12 : k < 12) : f_Tape_isWord k σ = some (if t = 1 ∧ wvN bs p (q - p) = kc k then iI 1 else iI 0, σ) := by
  obtain ⟨k1, k2, k3, k4, k5, k6, k7⟩ := hk
  have hl := hT.1
  have hm6 : lenK.getD k 0 ≤ 6 := by revert k; decide
  unfold f_Tape_isWord
  rw [hX.2.1, hX.2.2.1, hX.2.2.2.1, iI_sub, ← iN]
  by_cases e1 : t = 1
  · rw [if_pos (by rw [e1])]
    have hb := k6 e1
    have hc := wl_ch k hk12
    have hkr := kc_rg k hk12
    by_cases e2 : (q : Int) - (p : Int) = ((lenK.getD k 0 : Nat) : Int)
    · rw [if_pos (by rw [e2])]
      have en : q - p = lenK.getD k 0 := by omega
      obtain ⟨D, d1, d2, d3⟩ := first_ex (p := fun i => i < lenK.getD k 0 ∧ bs (p + i) = wlF k i) (lenK.getD k 0) (by omega)
      have hlp : lp (fun a => b_Tape_isWord_28 k a.1 a.2) FU (iI 0, σ) = some (if D < lenK.getD k 0 then .inl σ else .inr σ) := by
        refine lp_run (fun i => (iI (i : Int), σ)) _ D FU ?_ ?_ (Nat.lt_of_le_of_lt (show D ≤ 6 by omega) (by decide))
        · intro i hi
          show b_Tape_isWord_28 k (iI (i : Int)) σ = _
          obtain ⟨d4, d5⟩ := d2 i hi
          unfold b_Tape_isWord_28
          rw [← iN, if_neg (by rw [iI_le (by omega) (by omega)]; omega), hX.2.2.1, iI_add, show (p : Int) + (i : Int) = ((p + i : Nat) : Int) by omega, rd_N (by omega) (by decide), obs, rd_N d4 (by omega), obs, hX.1.2 _ (by omega), (hc i d4).1, d5, if_pos rfl, iI_add]
          rfl
        · show b_Tape_isWord_28 k (iI (D : Int)) σ = _
          unfold b_Tape_isWord_28
          rw [← iN]
          by_cases e3 : D < lenK.getD k 0
          · have h1 := hb D (by omega)
            have h2 := (hc D e3).2
            rw [if_neg (by rw [iI_le (by omega) (by omega)]; omega), hX.2.2.1, iI_add, show (p : Int) + (D : Int) = ((p + D : Nat) : Int) by omega, rd_N (by omega) (by decide), obs, rd_N e3 (by omega), obs, hX.1.2 _ (by omega), (hc D e3).1, if_neg (by rw [iI_eq (by omega) (by omega)]; exact fun z => d3 ⟨e3, z⟩), if_pos e3]
          · rw [if_pos (by rw [iI_le (by omega) (by omega)]; omega), if_neg e3]
      rw [hlp, obs]
      by_cases e3 : D < lenK.getD k 0
      · rw [if_pos e3, if_neg (fun z => ?_)]
        · rfl
        · have := (wv_inj (bs := bs) (c := wlF k) (p := p) (lenK.getD k 0) (q - p) hb (fun i hi => (hc i hi).2) (by show kc k ≤ 9999999999999; omega) z.2).2 D e3
          exact d3 ⟨e3, this⟩
      · have hv : wvN bs p (q - p) = kc k := by
          rw [en]
          exact wv_cong (c := wlF k) (r := 0) _ (fun i hi => by rw [Nat.zero_add]; exact (d2 i (by omega)).2)
        rw [if_neg e3, if_pos (show t = 1 ∧ wvN bs p (q - p) = kc k from ⟨e1, hv⟩)]
        rfl
    · rw [if_neg (by rw [iI_eq (by omega) (by omega)]; exact e2), if_neg (fun z => ?_)]
      have := (wv_inj (bs := bs) (c := wlF k) (p := p) (lenK.getD k 0) (q - p) hb (fun i hi => (hc i hi).2) (by show kc k ≤ 9999999999999; omega) z.2).1
      exact e2 (by omega)
  · rw [if_neg (by rw [iI_eq (by omega) (by omega)]; exact e1), if_neg (fun z => e1 z.1)]
theorem x_pw_no (hT : Tx len bs) (hX : XI σ len bs p q t) (hk : TK len bs p q t) {k : Nat} (hk12 : k < 12) (h : ¬ (t = 1 ∧ wvN bs p (q - p) = kc k)) : f_Tape_passesWord k σ = some (iI 0, σ) := by
  unfold f_Tape_passesWord
  rw [x_isWord hT hX hk hk12, b2s, if_neg h, if_pos rfl]
theorem x_pw_yes (hT : Tx len bs) (hX : XI σ len bs p q t) (hk : TK len bs p q t) {k : Nat} (hk12 : k < 12) (h : t = 1 ∧ wvN bs p (q - p) = kc k) (hn : TF len bs q p' q' t') : ∃ σ', f_Tape_passesWord k σ = some (iI 1, σ') ∧ XI σ' len bs p' q' t' ∧ Ag (P1 4 0 0) σ σ' := by
  obtain ⟨σ', q1, q2, q3⟩ := x_next hT hX hn
  refine ⟨σ', ?_, q2, q3⟩
  unfold f_Tape_passesWord
  rw [x_isWord hT hX hk hk12, b2s, if_pos h, if_neg (by decide), q1, b2s]
/-- a number from a to b stands here -/
def NU (bs : Nat → Int) (p q : Nat) (t a b : Int) : Prop := t = 2 ∧ a ≤ mvN bs p (q - p) ∧ mvN bs p (q - p) ≤ b
theorem x_nh (hX : XI σ len bs p q t) (hk : TK len bs p q t) {a b : Int} (ha : 0 ≤ a ∧ a ≤ 999) (hb : -1 ≤ b ∧ b ≤ 999) : (NU bs p q t a b → f_Tape_numberHere (iI a) (iI b) σ = some (iI (mvN bs p (q - p)), σ)) ∧ (¬ NU bs p q t a b → f_Tape_numberHere (iI a) (iI b) σ = some (iI (-2), σ)) := by
  obtain ⟨k1, k2, k3, k4, k5, k6, k7⟩ := hk
  by_cases e : t = 2
  · obtain ⟨r1, r2⟩ := mvN_rg (bs := bs) (p := p) (q - p) (k7 e)
    have hx : xvT bs t p q = if mvN bs p (q - p) ≤ 999 then mvN bs p (q - p) else 1000 := by
      unfold xvT
      rw [if_pos e, r2]
    have hxr : 0 ≤ xvT bs t p q ∧ xvT bs t p q ≤ 1000 := by
      rw [hx]
      split <;> omega
    have hv : f_Tape_numberHere (iI a) (iI b) σ = if xvT bs t p q < a then some (iI (-2), σ) else if b < xvT bs t p q then some (iI (-2), σ) else some (iI (xvT bs t p q), σ) := by
      unfold f_Tape_numberHere
      rw [hX.2.1, if_pos (by rw [e]), hX.2.2.2.2]
      by_cases e1 : xvT bs t p q < a
      · rw [if_pos (by rw [iI_lt (by omega) (by omega)]; exact e1), if_pos e1]
      · rw [if_neg (by rw [iI_lt (by omega) (by omega)]; exact e1), if_neg e1]
        by_cases e2 : b < xvT bs t p q
        · rw [if_pos (by rw [iI_lt (by omega) (by omega)]; exact e2), if_pos e2]
        · rw [if_neg (by rw [iI_lt (by omega) (by omega)]; exact e2), if_neg e2]
    rw [hv]
    refine ⟨fun ⟨n1, n2, n3⟩ => ?_, fun hn => ?_⟩
    · rw [if_pos (by omega)] at hx
      rw [hx, if_neg (by omega), if_neg (by omega)]
    · by_cases e1 : xvT bs t p q < a
      · rw [if_pos e1]
      · rw [if_neg e1]
        by_cases e2 : b < xvT bs t p q
        · rw [if_pos e2]
        · exfalso
          apply hn
          by_cases e3 : mvN bs p (q - p) ≤ 999
          · rw [if_pos e3] at hx
            exact ⟨e, by omega, by omega⟩
          · rw [if_neg e3] at hx
            omega
  · refine ⟨fun hn => absurd hn.1 e, fun _ => ?_⟩
    unfold f_Tape_numberHere
    rw [hX.2.1, if_neg (by rw [iI_eq (by omega) (by omega)]; exact e)]
theorem nu_rg (hk : TK len bs p q t) {a b : Int} (h : NU bs p q t a b) : 0 ≤ mvN bs p (q - p) ∧ mvN bs p (q - p) ≤ 9999 := (mvN_rg (bs := bs) (p := p) (q - p) (hk.2.2.2.2.2.2 h.1)).1
theorem x_pn_yes (hT : Tx len bs) (hX : XI σ len bs p q t) (hk : TK len bs p q t) {a b : Int} (ha : 0 ≤ a ∧ a ≤ 999) (hb : -1 ≤ b ∧ b ≤ 999) (h : NU bs p q t a b) (hn : TF len bs q p' q' t') : ∃ σ', f_Tape_passNumber (iI a) (iI b) σ = some (iI (mvN bs p (q - p)), σ') ∧ XI σ' len bs p' q' t' ∧ Ag (P1 4 0 0) σ σ' := by
  obtain ⟨σ', q1, q2, q3⟩ := x_next hT hX hn
  have hr := nu_rg hk h
  refine ⟨σ', ?_, q2, q3⟩
  unfold f_Tape_passNumber
  rw [(x_nh hX hk ha hb).1 h, b2s, if_neg (by rw [iI_eq (by omega) (by omega)]; omega), q1, b2s]
theorem x_pn_no (hX : XI σ len bs p q t) (hk : TK len bs p q t) {a b : Int} (ha : 0 ≤ a ∧ a ≤ 999) (hb : -1 ≤ b ∧ b ≤ 999) (h : ¬ NU bs p q t a b) : f_Tape_passNumber (iI a) (iI b) σ = some (iI (-2), σ) := by
  unfold f_Tape_passNumber
  rw [(x_nh hX hk ha hb).2 h, b2s, if_pos rfl]
theorem MI_2 : (MI τ bs p q t w).1 6 0 0 2 = iI (mtT bs t p q) := by
  unfold MI
  rw [show (sS (mst τ (iI (mtT bs t p q)) (iI (p : Int)) (iI (q : Int)) (lI (mvT bs t p q))) w).1 6 = (mst τ (iI (mtT bs t p q)) (iI (p : Int)) (iI (q : Int)) (lI (mvT bs t p q))).1 6 from r66_ne (by decide)]
  rfl
theorem MI_V : (MI τ bs p q t w).2.1 6 0 0 0 = lI (mvT bs t p q) := rfl
theorem l_32 {a : Int} (h : -9223372036854775808 ≤ a ∧ a < 9223372036854775808) : (lI a).toInt32 = iI a := by
  rw [← Int32.ofInt_int64ToInt, lI_to h]
  rfl
theorem m_tn_yes (hT : Tx len bs) (hM : MB τ len bs) (hk : TK len bs p q t) {a b : Int} (ha : 0 ≤ a ∧ a ≤ 999) (hb : -1 ≤ b ∧ b ≤ 999) (h : NU bs p q t a b) (hn : TF len bs q p' q' t') : f_M_takesNumber (iI a) (iI b) (MI τ bs p q t w) = some (iI (mvN bs p (q - p)), MI τ bs p' q' t' w) := by
  have hr := nu_rg hk h
  obtain ⟨n1, n2, n3⟩ := h
  have hv : mvT bs t p q = mvN bs p (q - p) := by
    unfold mvT
    rw [n1, if_neg (by decide), if_pos rfl]
  have ht : mtT bs t p q = 2 := by
    unfold mtT
    rw [if_neg (fun z => absurd z.2 (by omega)), n1]
  unfold f_M_takesNumber j_M_takesNumber_30
  rw [MI_2, ht, if_pos rfl, MI_V, hv, l_32 (by omega), m_in1 _ _ _ (by omega) (by omega) (by omega), b2s, if_pos (show a ≤ mvN bs p (q - p) ∧ mvN bs p (q - p) ≤ b from ⟨n2, n3⟩), if_neg (by decide), MI_V, hv, l_32 (by omega), if_neg (by rw [iI_lt (by omega) (by omega)]; omega), m_next hT hM hn, b2s]
theorem m_tn_no (hk : TK len bs p q t) {a b : Int} (ha : 0 ≤ a ∧ a ≤ 999) (hb : -1 ≤ b ∧ b ≤ 999) (h : ¬ NU bs p q t a b) : f_M_takesNumber (iI a) (iI b) (MI τ bs p q t w) = some (iI (-1), MI τ bs p q t w) := by
  have h3 := hk.2.2.1
  unfold f_M_takesNumber j_M_takesNumber_30
  rw [MI_2]
  by_cases e : t = 2
  · have hr := mvN_rg (bs := bs) (p := p) (q - p) (hk.2.2.2.2.2.2 e)
    have hv : mvT bs t p q = mvN bs p (q - p) := by
      unfold mvT
      rw [e, if_neg (by decide), if_pos rfl]
    by_cases e2 : 999 < mvN bs p (q - p)
    · rw [show mtT bs t p q = 4 by unfold mtT; rw [if_pos ⟨e, e2⟩], if_neg (by decide), if_pos (by decide)]
    · rw [show mtT bs t p q = 2 by unfold mtT; rw [if_neg (fun z => e2 z.2), e], if_pos rfl, MI_V, hv, l_32 (by omega), m_in1 _ _ _ (by omega) (by omega) (by omega), b2s, if_neg (show ¬ (a ≤ mvN bs p (q - p) ∧ mvN bs p (q - p) ≤ b) from fun z => h ⟨e, z.1, z.2⟩), if_pos rfl, if_pos (by decide)]
  · rw [show mtT bs t p q = t by unfold mtT; rw [if_neg (fun z => e z.1)], if_neg (by rw [iI_eq (by omega) (by omega)]; exact e), if_pos (by decide)]
/-- which word of a row of words -/
def sI (g i : Nat) : Nat := if g = 0 then i else if g = 1 then 9 + i else 6 + i
def nW (g : Nat) : Nat := if g = 0 then 6 else 3
def wch (g : Nat) (V : Int) : Nat → Int
  | 0 => -1
  | i + 1 => if kc (sI g i) = V then (i : Int) else wch g V i
theorem wch_succ (g : Nat) (V : Int) (i : Nat) : wch g V (i + 1) = if kc (sI g i) = V then (i : Int) else wch g V i := rfl
end TOK
