/-! PURE: the reference, days in a row -/
theorem wears_cong {r r' : Ro} {w : Int} (e : ∀ f, f < 7 → r' f = r f) : wears r' w = wears r w := by
  unfold wears
  rw [e 0 (by decide), e 4 (by decide)]
theorem breeds_cong {r r' : Ro} {w : Int} (e : ∀ f, f < 7 → r' f = r f) : breeds r' w = breeds r w := by
  unfold breeds
  rw [e 0 (by decide)]
theorem reach_cong {r r' : Ro} (e : ∀ f, f < 7 → r' f = r f) : reach r' = reach r := by
  unfold reach
  rw [e 0 (by decide), e 2 (by decide), e 3 (by decide)]
theorem ageR_cong {r r' : Ro} {w : Int} (e : ∀ f, f < 7 → r' f = r f) : ∀ f, f < 7 → ageR r' w f = ageR r w f := by
  intro f hf
  unfold ageR
  rw [wears_cong e, breeds_cong e, e 5 (by decide), e 3 (by decide), e 4 (by decide)]
  split
  · unfold up
    rw [e f hf]
  · unfold up
    rw [e f hf]
def ageN (s : Ro) : Nat → Ro
  | 0 => s
  | k + 1 => age (ageN s k) k
theorem ageN_succ (s : Ro) (k : Nat) : ageN s (k + 1) = age (ageN s k) k := rfl
theorem ageN_hd (s : Ro) : ∀ (n i : Nat), i < 10 → ageN s n i = s i := by
  intro n
  induction n with
  | zero => intro i _; rfl
  | succ n ih =>
    intro i hi
    rw [ageN_succ]
    exact (setRug_hd hi).trans (ih i hi)
theorem wet_hd {s s' : Ro} (e : ∀ i, i < 10 → s' i = s i) : wet s' = wet s := by
  unfold wet
  rw [e 0 (by decide)]
  exact e _ (by have := Nat.mod_lt (s 0).toNat (show 7 > 0 by decide); omega)
theorem mny_hd {s s' : Ro} (e : ∀ i, i < 10 → s' i = s i) : mny s' = mny s := by
  unfold mny
  rw [e 2 (by decide)]
theorem ageN_rug (s : Ro) : ∀ (n j f : Nat), f < 7 → rug (ageN s n) j f = if j < n then ageR (rug s j) (wet s) f else rug s j f := by
  intro n
  induction n with
  | zero => intro j f _; rw [if_neg (by omega)]; rfl
  | succ n ih =>
    intro j f hf
    rw [ageN_succ]
    unfold age
    by_cases e : j = n
    · subst e
      rw [setRug_at hf, if_pos (by omega), wet_hd (ageN_hd s j)]
      exact ageR_cong (fun g hg => by rw [ih j g hg, if_neg (by omega)]) f hf
    · rw [setRug_ne e hf, ih j f hf]
      by_cases h1 : j < n
      · rw [if_pos h1, if_pos (by omega)]
      · rw [if_neg h1, if_neg (by omega)]
theorem GS.hd {s s' : Ro} (h : GS s) (e : ∀ i, i < 10 → s' i = s i) (hr : ∀ k : Nat, k < mny s → GR (rug s' k)) : GS s' := by
  have hm := mny_eq h
  obtain ⟨h0, h1, h2, h3, h4⟩ := h
  refine ⟨by rw [e 0 (by decide)]; exact h0, by rw [e 1 (by decide)]; exact h1, by rw [e 2 (by decide)]; exact h2, fun i hi => by rw [e _ (by omega)]; exact h3 i hi, fun j hj => ?_⟩
  rw [e 2 (by decide)] at hj
  exact hr j (by omega)
theorem GS.ageN {s : Ro} (h : GS s) (n : Nat) : GS (ageN s n) := by
  refine h.hd (ageN_hd s n) (fun k hk => ?_)
  by_cases e : k < n
  · exact GR.cong (fun f hf => by rw [ageN_rug s n k f hf, if_pos e]) ((h.rg hk).age (wet_01 h))
  · exact GR.cong (fun f hf => by rw [ageN_rug s n k f hf, if_neg e]) (h.rg hk)
/-- a day -/
def day1 (s : Ro) : Ro := up (ageN s (mny s)) 0 (s 0 + 1)
def goesN (s : Ro) : Nat → Ro
  | 0 => s
  | n + 1 => day1 (goesN s n)
theorem goesN_succ (s : Ro) (n : Nat) : goesN s (n + 1) = day1 (goesN s n) := rfl
theorem day1_0 (s : Ro) : day1 s 0 = s 0 + 1 := up_same
theorem day1_hd (s : Ro) {i : Nat} (hi : i < 10) (h0 : i ≠ 0) : day1 s i = s i := by
  unfold day1
  rw [up_ne h0, ageN_hd s _ i hi]
theorem day1_rug (s : Ro) {j f : Nat} (hf : f < 7) (hj : j < mny s) : rug (day1 s) j f = ageR (rug s j) (wet s) f := by
  show up (ageN s (mny s)) 0 (s 0 + 1) (10 + 7 * j + f) = _
  rw [up_ne (by omega)]
  show rug (ageN s (mny s)) j f = _
  rw [ageN_rug s _ j f hf, if_pos hj]
theorem mny_day1 (s : Ro) : mny (day1 s) = mny s := by
  unfold mny
  rw [day1_hd s (by decide) (by decide)]
theorem GS.day1 {s : Ro} (h : GS s) (hd : s 0 < 20000) : GS (day1 s) := by
  have hm := mny_eq h
  obtain ⟨h0, h1, h2, h3, h4⟩ := id h
  refine ⟨by rw [day1_0]; omega, by rw [day1_hd s (by decide) (by decide)]; exact h1, by rw [day1_hd s (by decide) (by decide)]; exact h2, fun i hi => by rw [day1_hd s (by omega) (by omega)]; exact h3 i hi, fun j hj => ?_⟩
  rw [day1_hd s (by decide) (by decide)] at hj
  exact GR.cong (fun f hf => day1_rug s hf (by omega)) ((h.rg (k := j) (by omega)).age (wet_01 h))
theorem goesN_0 (s : Ro) : ∀ n : Nat, goesN s n 0 = s 0 + n := by
  intro n
  induction n with
  | zero => show s 0 = s 0 + 0; omega
  | succ n ih => rw [goesN_succ, day1_0, ih]; omega
theorem goesN_hd (s : Ro) : ∀ (n : Nat) {i : Nat}, i < 10 → i ≠ 0 → goesN s n i = s i := by
  intro n
  induction n with
  | zero => intro i _ _; rfl
  | succ n ih => intro i h1 h2; rw [goesN_succ, day1_hd _ h1 h2, ih h1 h2]
theorem mny_goesN (s : Ro) (n : Nat) : mny (goesN s n) = mny s := by
  unfold mny
  rw [goesN_hd s n (by decide) (by decide)]
theorem GS.goesN {s : Ro} (h : GS s) : ∀ n : Nat, s 0 + n ≤ 20000 → GS (goesN s n) := by
  intro n
  induction n with
  | zero => intro _; exact h
  | succ n ih =>
    intro hn
    rw [goesN_succ]
    exact (ih (by omega)).day1 (by rw [goesN_0]; omega)
theorem m_day {s : Ro} (h : GS s) (σ : Sg) (x y : Int32) : lp (fun a => b_M_goes_9 x y a.1 a.2) FU (iI 0, sS σ s) = some (sS σ (ageN s (mny s))) := by
  have hm := mny_le h
  have he := mny_eq h
  refine lp_run (fun i => (iI (i : Int), sS σ (ageN s i))) (sS σ (ageN s (mny s))) (mny s) FU ?_ ?_ (Nat.lt_of_le_of_lt hm (by decide))
  · intro k hk
    show b_M_goes_9 x y (iI (k : Int)) (sS σ (ageN s k)) = some (.inl (iI ((k + 1 : Nat) : Int), sS σ (ageN s (k + 1))))
    have h' := h.ageN k
    have e2 := ageN_hd s k 2 (by decide)
    unfold b_M_goes_9
    rw [rd_2, obs, sS_at (by decide), e2, if_neg (by rw [iI_le (by omega) (by omega)]; omega), m_ages h' σ (by rw [mny_hd (ageN_hd s k)]; exact hk), b2s, iI_add]
    rfl
  · show b_M_goes_9 x y (iI (mny s : Int)) (sS σ (ageN s (mny s))) = some (.inr (sS σ (ageN s (mny s))))
    have e2 := ageN_hd s (mny s) 2 (by decide)
    unfold b_M_goes_9
    rw [rd_2, obs, sS_at (by decide), e2, if_pos (by rw [iI_le (by omega) (by omega)]; omega)]
theorem m_goes {s : Ro} (h : GS s) (σ : Sg) {n : Nat} (hn : s 0 + n ≤ 20000) (hn' : n < 1000) : f_M_goes (iI n) (sS σ s) = some ((), sS σ (goesN s n)) := by
  have hl : lp (fun a => b_M_goes_2 (iI n) a.1 a.2) FU (iI 0, sS σ s) = some (sS σ (goesN s n)) := by
    refine lp_run (fun i => (iI (i : Int), sS σ (goesN s i))) (sS σ (goesN s n)) n FU ?_ ?_ (Nat.lt_of_lt_of_le hn' (by decide))
    · intro k hk
      show b_M_goes_2 (iI n) (iI (k : Int)) (sS σ (goesN s k)) = some (.inl (iI ((k + 1 : Nat) : Int), sS σ (goesN s (k + 1))))
      have h' := h.goesN k (by omega)
      unfold b_M_goes_2
      rw [if_neg (by rw [iI_le (by omega) (by omega)]; omega), m_day h' σ, obs, rd_0, obs, obs, sS_at (by decide), iI_add, iI_add, sS_up (by decide), ageN_hd _ _ _ (by decide)]
      rfl
    · show b_M_goes_2 (iI n) (iI (n : Int)) (sS σ (goesN s n)) = some (.inr (sS σ (goesN s n)))
      unfold b_M_goes_2
      rw [if_pos (by rw [iI_le (by omega) (by omega)]; omega)]
  unfold f_M_goes
  rw [hl, obs]
/-- how it is in n days with one carpet -/
def wetAt (s : Ro) (d : Nat) : Int := s (3 + ((s 0).toNat + d) % 7)
def rgN (s : Ro) (c : Nat) : Nat → Ro
  | 0 => rug s c
  | n + 1 => ageR (rgN s c n) (wetAt s n)
theorem rgN_succ (s : Ro) (c n : Nat) : rgN s c (n + 1) = ageR (rgN s c n) (wetAt s n) := rfl
theorem goesN_wet {s : Ro} (h : GS s) (n : Nat) : wet (goesN s n) = wetAt s n := by
  obtain ⟨h0, -⟩ := h
  unfold wet wetAt
  rw [goesN_0, show (s 0 + (n : Int)).toNat = (s 0).toNat + n by omega, goesN_hd s n (by have := Nat.mod_lt ((s 0).toNat + n) (show 7 > 0 by decide); omega) (by omega)]
theorem goesN_rug {s : Ro} (h : GS s) {c : Nat} (hc : c < mny s) : ∀ (n f : Nat), f < 7 → rug (goesN s n) c f = rgN s c n f := by
  intro n
  induction n with
  | zero => intro f _; rfl
  | succ n ih =>
    intro f hf
    rw [goesN_succ, day1_rug _ hf (by rw [mny_goesN]; exact hc), goesN_wet h, rgN_succ]
    exact ageR_cong (fun g hg => ih g hg) f hf
