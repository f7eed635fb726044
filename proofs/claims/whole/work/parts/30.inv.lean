/-! PURE: class and reference side by side -/
/-- a world that may be, after n calls -/
def GV (n : Nat) (v : Ro) : Prop := GS v ∧ v 0 ≤ 9999 ∧ UQ v ∧ v 1 ≤ 16 * n ∧ ∀ c, c < mny v → 0 ≤ rug v c 5 → rug v c 6 ≤ v 1
def IW (n : Nat) (σ : Sg) (v : Ro) : Prop := (∀ j, j < 66 → σ.1 20 0 0 j = iI (v j)) ∧ XW σ 0 v ∧ GV n v
def IK (n : Nat) (σ : Sg) (kp : Ro) : Prop := σ.1 0 0 0 0 = σ.1 6 0 0 0 ∧ (σ.1 6 0 0 0 = iI 0 ∨ (σ.1 6 0 0 0 = iI 1 ∧ (∀ j, j < 66 → σ.1 21 0 0 j = iI (kp j)) ∧ XW σ 1 kp ∧ GV n kp))
def IC (σ : Sg) : Prop := ∀ i, i < 7 → σ.1 18 0 0 i = σ.1 23 0 0 i
def IT (σ : Sg) (len : Nat) (bs : Nat → Int) : Prop := σ.1 4 0 0 0 = iI len ∧ σ.1 6 0 0 1 = iI len ∧ len ≤ 120 ∧ ∀ j, j < len → σ.1 15 0 0 j = iI (bs j) ∧ σ.1 24 0 0 j = iI (bs j) ∧ 0 ≤ bs j ∧ bs j ≤ 255
def IS (σ : Sg) : Prop := ∀ s, s < 4 → σ.1 3 s 0 0 = σ.1 28 0 0 s ∧ (σ.1 28 0 0 s = iI 0 ∨ σ.1 28 0 0 s = iI 8 ∨ σ.1 28 0 0 s = iI 16 ∨ σ.1 28 0 0 s = iI 64) ∧ (∃ z : Nat, z ≤ 40 ∧ σ.1 3 s 0 1 = iI z ∧ σ.1 29 0 0 s = iI z) ∧ ∀ i, i < 40 → σ.2.1 17 s 0 i = σ.2.1 30 0 0 (40 * s + i)
def Inv (n : Nat) (σ : Sg) : Prop := ∃ v kp len bs, IW n σ v ∧ IK n σ kp ∧ IC σ ∧ IT σ len bs ∧ IS σ
/-- both answer alike, and stay side by side -/
def Both (n : Nat) {α : Type} (X M : Sg → Option (α × Sg)) : Prop := ∀ σ, Inv n σ → ∃ r σ1 σ2, X σ = some (r, σ1) ∧ M σ1 = some (r, σ2) ∧ Inv (n + 1) σ2
theorem GV.mono {n m : Nat} {v : Ro} (h : GV n v) (hnm : n ≤ m) : GV m v := ⟨h.1, h.2.1, h.2.2.1, by have := h.2.2.2.1; omega, h.2.2.2.2⟩
theorem IK.mono {n m : Nat} {σ : Sg} {kp : Ro} (h : IK n σ kp) (hnm : n ≤ m) : IK m σ kp := ⟨h.1, h.2.imp id (fun q => ⟨q.1, q.2.1, q.2.2.1, q.2.2.2.mono hnm⟩)⟩
theorem IW.mono {n m : Nat} {σ : Sg} {v : Ro} (h : IW n σ v) (hnm : n ≤ m) : IW m σ v := ⟨h.1, h.2.1, h.2.2.mono hnm⟩
theorem Inv.mono {n m : Nat} {σ : Sg} (h : Inv n σ) (hnm : n ≤ m) : Inv m σ := by
  obtain ⟨v, kp, len, bs, h1, h2, h3⟩ := h
  exact ⟨v, kp, len, bs, h1.mono hnm, h2.mono hnm, h3⟩
theorem IW.self {n : Nat} {σ : Sg} {v : Ro} (h : IW n σ v) : sS σ v = σ := r66_self h.1
/-- a number as it is -/
theorem toI (x : Int32) : ∃ z : Int, x = iI z ∧ (-2147483648 ≤ z ∧ z < 2147483648) := by
  refine ⟨x.toInt, (Int32.ofInt_toInt x).symm, ?_⟩
  have h1 := Int32.minValue_le_toInt x
  have h2 := Int32.toInt_le x
  have e1 : Int32.minValue.toInt = -2147483648 := rfl
  have e2 : Int32.maxValue.toInt = 2147483647 := rfl
  omega
section PARTS
variable {P : Nat → Nat → Nat → Prop} {σ σ' : Sg}
theorem IW.ag {n : Nat} {v : Ro} (h : IW n σ v) (ha : Ag P σ σ') (h0 : ¬ P 20 0 0) (h1 : ¬ P 1 0 0) (h2 : ¬ P 12 0 0) (h3 : ∀ c, ¬ P 2 0 c) : IW n σ' v := ⟨fun j hj => by rw [(ha 20 0 0 h0).1]; exact h.1 j hj, h.2.1.ag ha h1 h2 h3, h.2.2⟩
theorem IK.ag {n : Nat} {kp : Ro} (h : IK n σ kp) (ha : Ag P σ σ') (h00 : ¬ P 0 0 0) (h6 : ¬ P 6 0 0) (h0 : ¬ P 21 0 0) (h1 : ¬ P 1 1 0) (h2 : ¬ P 12 1 0) (h3 : ∀ c, ¬ P 2 1 c) : IK n σ' kp := by
  unfold IK
  rw [(ha 0 0 0 h00).1, (ha 6 0 0 h6).1, (ha 21 0 0 h0).1]
  exact ⟨h.1, h.2.imp id (fun q => ⟨q.1, q.2.1, q.2.2.1.ag ha h1 h2 h3, q.2.2.2⟩)⟩
theorem IC.ag (h : IC σ) (ha : Ag P σ σ') (h0 : ¬ P 18 0 0) (h1 : ¬ P 23 0 0) : IC σ' := by
  unfold IC
  rw [(ha 18 0 0 h0).1, (ha 23 0 0 h1).1]
  exact h
theorem IT.ag {len : Nat} {bs : Nat → Int} (h : IT σ len bs) (ha : Ag P σ σ') (h0 : ¬ P 4 0 0) (h1 : ¬ P 6 0 0) (h2 : ¬ P 15 0 0) (h3 : ¬ P 24 0 0) : IT σ' len bs := by
  unfold IT
  rw [(ha 4 0 0 h0).1, (ha 6 0 0 h1).1, (ha 15 0 0 h2).1, (ha 24 0 0 h3).1]
  exact h
theorem IS.ag (h : IS σ) (ha : Ag P σ σ') (h0 : ∀ s, ¬ P 3 s 0) (h1 : ¬ P 28 0 0) (h2 : ¬ P 29 0 0) (h3 : ∀ s, ¬ P 17 s 0) (h4 : ¬ P 30 0 0) : IS σ' := by
  intro s hs
  rw [(ha 3 s 0 (h0 s)).1, (ha 28 0 0 h1).1, (ha 29 0 0 h2).1, (ha 17 s 0 (h3 s)).2.1, (ha 30 0 0 h4).2.1]
  exact h s hs
end PARTS
/-- what is free: the reference's scratch, the class's trial, probe, layers -/
def Fr : Nat → Nat → Nat → Prop := fun t i _ => t = 22 ∨ t = 31 ∨ t = 13 ∨ t = 14 ∨ ((t = 1 ∨ t = 2 ∨ t = 12) ∧ (i = 2 ∨ i = 3))
theorem Inv.fr {n : Nat} {σ σ' : Sg} (h : Inv n σ) (ha : Ag Fr σ σ') : Inv n σ' := by
  obtain ⟨v, kp, len, bs, h1, h2, h3, h4, h5⟩ := h
  exact ⟨v, kp, len, bs, h1.ag ha (by simp [Fr]) (by simp [Fr]) (by simp [Fr]) (by simp [Fr]), h2.ag ha (by simp [Fr]) (by simp [Fr]) (by simp [Fr]) (by simp [Fr]) (by simp [Fr]) (by simp [Fr]), h3.ag ha (by simp [Fr]) (by simp [Fr]), h4.ag ha (by simp [Fr]) (by simp [Fr]) (by simp [Fr]) (by simp [Fr]), h5.ag ha (by simp [Fr]) (by simp [Fr]) (by simp [Fr]) (by simp [Fr]) (by simp [Fr])⟩
theorem Ag.sS {P : Nat → Nat → Nat → Prop} {σ : Sg} {s : Ro} (h : P 20 0 0) : Ag P σ (sS σ s) := Ag.roI h
theorem Ag.aS {P : Nat → Nat → Nat → Prop} {σ : Sg} {s : Ro} (h : P 22 0 0) : Ag P σ (aS σ s) := Ag.roI h
/-- a finding on both sides -/
def foS (σ : Sg) (k : Nat) : Sg := upI σ 18 0 0 k (σ.1 18 0 0 k + iI 1)
theorem x_within (a b c : Int) (ha : -2147483648 ≤ a ∧ a < 2147483648) (hb : -2147483648 ≤ b ∧ b < 2147483648) (hc : -2147483648 ≤ c ∧ c < 2147483648) (σ : Sg) : f_X_within (iI a) (iI b) (iI c) σ = some (if b ≤ a ∧ a ≤ c then iI 1 else iI 0, σ) := by
  unfold f_X_within
  simp only [iI_lt ha hb, iI_lt hc ha]
  split
  · rw [if_neg (by omega)]
  split
  · rw [if_neg (by omega)]
  · rw [if_pos (by omega)]
theorem x_found {k : Nat} (hk : k < 7) (σ : Sg) : f_X_found (iI (-1000000001 - k)) σ = some (iI (-1000000001 - k), foS σ k) := by
  unfold f_X_found
  rw [iI_sub, show (-1000000001 - (-1000000001 - (k : Int))) = (k : Int) by omega, x_within _ _ _ (by omega) (by omega) (by omega), b2s, if_pos (show (0 : Int) ≤ (k : Int) ∧ (k : Int) ≤ 6 by omega), if_neg (by decide), rd_N hk (by decide), obs, obs]
  rfl
theorem x_found0 (σ : Sg) : f_X_found (iI (-1000000001)) σ = some (iI (-1000000001), foS σ 0) := x_found (k := 0) (by decide) σ
theorem x_found1 (σ : Sg) : f_X_found (iI (-1000000002)) σ = some (iI (-1000000002), foS σ 1) := x_found (k := 1) (by decide) σ
theorem x_found2 (σ : Sg) : f_X_found (iI (-1000000003)) σ = some (iI (-1000000003), foS σ 2) := x_found (k := 2) (by decide) σ
theorem x_found3 (σ : Sg) : f_X_found (iI (-1000000004)) σ = some (iI (-1000000004), foS σ 3) := x_found (k := 3) (by decide) σ
theorem x_found4 (σ : Sg) : f_X_found (iI (-1000000005)) σ = some (iI (-1000000005), foS σ 4) := x_found (k := 4) (by decide) σ
theorem x_found5 (σ : Sg) : f_X_found (iI (-1000000006)) σ = some (iI (-1000000006), foS σ 5) := x_found (k := 5) (by decide) σ
theorem x_found6 (σ : Sg) : f_X_found (iI (-1000000007)) σ = some (iI (-1000000007), foS σ 6) := x_found (k := 6) (by decide) σ
def Pc2 : Nat → Nat → Nat → Prop := fun t _ _ => t = 18 ∨ t = 23
theorem Inv.fo {n : Nat} {σ : Sg} (h : Inv n σ) {k : Nat} (hk : k < 7) : Inv n (noS (foS σ k) k) := by
  have ha : Ag Pc2 σ (noS (foS σ k) k) := (Ag.upI (Or.inl rfl)).tr (Ag.upI (Or.inr rfl))
  obtain ⟨v, kp, len, bs, h1, h2, h3, h4, h5⟩ := h
  refine ⟨v, kp, len, bs, h1.ag ha (by simp [Pc2]) (by simp [Pc2]) (by simp [Pc2]) (by simp [Pc2]), h2.ag ha (by simp [Pc2]) (by simp [Pc2]) (by simp [Pc2]) (by simp [Pc2]) (by simp [Pc2]) (by simp [Pc2]), ?_, h4.ag ha (by simp [Pc2]) (by simp [Pc2]) (by simp [Pc2]) (by simp [Pc2]), h5.ag ha (by simp [Pc2]) (by simp [Pc2]) (by simp [Pc2]) (by simp [Pc2]) (by simp [Pc2])⟩
  intro i hi
  have e := h3 i hi
  have ek := h3 k hk
  by_cases hik : i = k
  · subst hik
    simp [noS, foS, upI_1, e]
  · simp [noS, foS, upI_1, hik, e]
theorem MS.keep {n : Nat} {σ σ' : Sg} {v : Ro} (h : IW n σ v) (e : σ'.1 20 = σ.1 20) : sS σ' v = σ' := r66_self (fun j hj => by rw [e]; exact h.1 j hj)
/-- both tell a finding -/
theorem both_fo {n k : Nat} (hk : k < 7) {σ : Sg} {X M : Sg → Option (Int32 × Sg)} (h : Inv n σ) (hX : X σ = some (iI (-1000000001 - k), foS σ k)) (hM : M (foS σ k) = some (iI (-1000000001 - k), noS (foS σ k) k)) : ∃ r σ1 σ2, X σ = some (r, σ1) ∧ M σ1 = some (r, σ2) ∧ Inv (n + 1) σ2 := ⟨_, _, _, hX, hM, (h.fo hk).mono (by omega)⟩
theorem foS_20 (σ : Sg) (k : Nat) : (foS σ k).1 20 = σ.1 20 := by
  funext i j q
  simp [foS, upI_1]
theorem GR.set {r : Ro} {f : Nat} {x : Int} (h : GR r) (h1 : f = 1 → 0 ≤ x ∧ x ≤ 3) (h2 : f = 2 → 1 ≤ x ∧ x ≤ 20) (h3 : f = 3 → 0 ≤ x ∧ x ≤ 99) (h4 : f = 4 → 0 ≤ x ∧ x ≤ 9) (h0 : f = 0 → 0 ≤ x ∧ x ≤ 5) (h5 : f = 5 → -1 ≤ x ∧ x ≤ 39) (h6 : f = 6 → 0 ≤ x ∧ x ≤ 99999) : GR (up r f x) := by
  obtain ⟨g0, g1, g2, g3, g4, g5, g6⟩ := h
  unfold GR up
  refine ⟨?_, ?_, ?_, ?_, ?_, ?_, ?_⟩
  · by_cases e : 0 = f
    · rw [if_pos e]; exact h0 e.symm
    · rw [if_neg e]; exact g0
  · by_cases e : 1 = f
    · rw [if_pos e]; exact h1 e.symm
    · rw [if_neg e]; exact g1
  · by_cases e : 2 = f
    · rw [if_pos e]; exact h2 e.symm
    · rw [if_neg e]; exact g2
  · by_cases e : 3 = f
    · rw [if_pos e]; exact h3 e.symm
    · rw [if_neg e]; exact g3
  · by_cases e : 4 = f
    · rw [if_pos e]; exact h4 e.symm
    · rw [if_neg e]; exact g4
  · by_cases e : 5 = f
    · rw [if_pos e]; exact h5 e.symm
    · rw [if_neg e]; exact g5
  · by_cases e : 6 = f
    · rw [if_pos e]; exact h6 e.symm
    · rw [if_neg e]; exact g6
/-- rain -/
theorem both_rain (n : Nat) (a b : Int32) : Both n (f_X_rain a b) (f_M_rain a b) := by
  intro σ h
  obtain ⟨za, rfl, ha⟩ := toI a
  obtain ⟨zb, rfl, hb⟩ := toI b
  by_cases hc : (0 ≤ za ∧ za ≤ 6) ∧ (0 ≤ zb ∧ zb ≤ 1)
  · obtain ⟨hca, hcb⟩ := hc
    obtain ⟨v, kp, len, bs, h1, h2, h3, h4, h5⟩ := h
    have ea : za = ((za.toNat : Nat) : Int) := by omega
    have hr := h1.2.1.1.2.2.2 za.toNat (by omega)
    refine ⟨iI (v (3 + za.toNat)), upI σ 12 0 0 za.toNat (iI zb), sS (upI σ 12 0 0 za.toNat (iI zb)) (up v (3 + za.toNat) zb), ?_, ?_, ?_⟩
    · unfold f_X_rain
      rw [x_within _ _ _ ha (by omega) (by omega), b2s, if_pos hca, if_neg (by decide), x_within _ _ _ hb (by omega) (by omega), b2s, if_pos hcb, if_neg (by decide), rd_iI (by omega) (by omega) (by decide), obs, obs, hr]
    · have e0 : upI σ 12 0 0 za.toNat (iI zb) = sS (upI σ 12 0 0 za.toNat (iI zb)) v := (r66_self (fun j hj => by simp [upI_1]; exact h1.1 j hj)).symm
      rw [e0]
      unfold f_M_rain
      rw [m_in1 _ _ _ ha (by omega) (by omega), b2s, if_pos hca, if_neg (by decide), m_in1 _ _ _ hb (by omega) (by omega), b2s, if_pos hcb, if_neg (by decide), iI_add, show 3 + za = ((3 + za.toNat : Nat) : Int) by omega, rd_N (by omega) (by decide), obs, obs, sS_at (by omega), sS_up (by omega), sS_sS]
    · have hag : Ag (fun t i _ => (t = 12 ∧ i = 0) ∨ t = 20) σ (sS (upI σ 12 0 0 za.toNat (iI zb)) (up v (3 + za.toNat) zb)) := (Ag.upI (Or.inl ⟨rfl, rfl⟩)).tr (Ag.sS (Or.inr rfl))
      have hup : ∀ i, i ≠ 3 + za.toNat → up v (3 + za.toNat) zb i = v i := fun i hi => up_ne hi
      have hmn : mny (up v (3 + za.toNat) zb) = mny v := by unfold mny; rw [hup 2 (by omega)]
      have hrg : ∀ c f, rug (up v (3 + za.toNat) zb) c f = rug v c f := fun c f => hup _ (by omega)
      obtain ⟨g1, g2, g3, g4, g5⟩ := h1.2.2
      refine ⟨up v (3 + za.toNat) zb, kp, len, bs, ⟨fun j hj => sS_at hj, ⟨⟨?_, ?_, ?_, ?_⟩, ?_⟩, ⟨?_, ?_, ?_, ?_, ?_⟩⟩, (h2.mono (by omega)).ag hag (by simp) (by simp) (by simp) (by simp) (by simp) (by simp), h3.ag hag (by simp) (by simp), h4.ag hag (by simp) (by simp) (by simp) (by simp), h5.ag hag (by simp) (by simp) (by simp) (by simp) (by simp)⟩
      · rw [hup 2 (by omega), (hag 1 0 0 (by simp)).1]; exact h1.2.1.1.1
      · rw [hup 0 (by omega), (hag 1 0 0 (by simp)).1]; exact h1.2.1.1.2.1
      · rw [hup 1 (by omega), (hag 1 0 0 (by simp)).1]; exact h1.2.1.1.2.2.1
      · intro i hi
        have e12 : (sS (upI σ 12 0 0 za.toNat (iI zb)) (up v (3 + za.toNat) zb)).1 12 = (upI σ 12 0 0 za.toNat (iI zb)).1 12 := r66_ne (by decide)
        rw [e12, upI_1]
        by_cases e : i = za.toNat
        · rw [if_pos ⟨rfl, rfl, rfl, e⟩, e, up_same]
        · rw [if_neg (fun z => e z.2.2.2), hup _ (by omega)]; exact h1.2.1.1.2.2.2 i hi
      · intro c hc
        rw [hmn] at hc
        exact ((h1.2.1.2 c hc).ag hag (by simp)).cong (fun f _ => hrg c f)
      · obtain ⟨k0, k1, k2, k3, k4⟩ := g1
        refine ⟨by rw [hup 0 (by omega)]; exact k0, by rw [hup 1 (by omega)]; exact k1, by rw [hup 2 (by omega)]; exact k2, fun i hi => ?_, fun c hc => ?_⟩
        · by_cases e : i = za.toNat
          · rw [e, up_same]; omega
          · rw [hup _ (by omega)]; exact k3 i hi
        · rw [hup 2 (by omega)] at hc
          exact GR.cong (fun f _ => hrg c f) (k4 c hc)
      · rw [hup 0 (by omega)]; exact g2
      · intro x y hx hy ox oy e
        rw [hmn] at hx hy
        rw [hrg] at ox oy
        rw [hrg, hrg] at e
        exact g3 x y hx hy ox oy e
      · rw [hup 1 (by omega)]; omega
      · intro c hc ho
        rw [hmn] at hc
        rw [hrg] at ho
        rw [hrg, hup 1 (by omega)]
        exact g5 c hc ho
  · refine both_fo (k := 0) (by decide) h ?_ ?_
    · unfold f_X_rain j_X_rain_19
      rw [x_within _ _ _ ha (by omega) (by omega), b2s]
      by_cases h1 : 0 ≤ za ∧ za ≤ 6
      · rw [if_pos h1, if_neg (by decide), x_within _ _ _ hb (by omega) (by omega), b2s, if_neg (fun z => hc ⟨h1, z⟩), if_pos (by decide), x_found0, b2s]
        rfl
      · rw [if_neg h1, if_pos (by decide), x_found0, b2s]
        rfl
    · unfold f_M_rain j_M_rain_19
      rw [m_in1 _ _ _ ha (by omega) (by omega), b2s]
      by_cases h1 : 0 ≤ za ∧ za ≤ 6
      · rw [if_pos h1, if_neg (by decide), m_in1 _ _ _ hb (by omega) (by omega), b2s, if_neg (fun z => hc ⟨h1, z⟩), if_pos (by decide), m_no0, b2s]
        rfl
      · rw [if_neg h1, if_pos (by decide), m_no0, b2s]
        rfl
