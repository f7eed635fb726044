/-! PURE: the bits of a long, counted -/
def val8 : List Nat → Nat
  | [] => 0
  | a :: l => val8 l * 256 + a
def mk8 (c : Nat) : Nat → Nat
  | 0 => 0
  | k + 1 => mk8 c k * 256 + c
theorem tb8 {X x : Nat} (hx : x < 256) (i : Nat) : (X * 256 + x).testBit i = if i < 8 then x.testBit i else X.testBit (i - 8) := by
  have h := Nat.testBit_two_pow_mul_add X (i := 8) (b := x) (show x < 2 ^ 8 from hx) i
  rw [show (2 : Nat) ^ 8 = 256 from rfl] at h
  rw [Nat.mul_comm]
  exact h
theorem and8 {X x M m : Nat} (hx : x < 256) (hm : m < 256) : (X * 256 + x) &&& (M * 256 + m) = (X &&& M) * 256 + (x &&& m) := by
  apply Nat.eq_of_testBit_eq
  intro i
  have h1 := tb8 (X := X) hx i
  have h2 := tb8 (X := M) hm i
  have h3 := tb8 (X := X &&& M) (x := x &&& m) (Nat.lt_of_le_of_lt Nat.and_le_left hx) i
  rw [Nat.testBit_and, h1, h2, h3]
  by_cases e : i < 8
  · simp only [if_pos e, Nat.testBit_and]
  · simp only [if_neg e, Nat.testBit_and]
theorem d8a : ∀ p, p < 2 → ∀ a, a < 256 → (p * 128 + a / 2) &&& 85 = (a / 2) &&& 85 := by decide +kernel
theorem d8b : ∀ p, p < 4 → ∀ a, a < 256 → (p * 64 + a / 4) &&& 51 = (a / 4) &&& 51 := by decide +kernel
theorem d8c : ∀ p, p < 7 → ∀ a, a < 103 → (a + a / 16 + p * 16) &&& 15 = (a + a / 16) &&& 15 := by decide +kernel
def y8 (a : Nat) : Nat := a - ((a / 2) &&& 85)
def z8 (a : Nat) : Nat := (a &&& 51) + ((a / 4) &&& 51)
def w8 (a : Nat) : Nat := (a + a / 16) &&& 15
theorem z8_rg : ∀ a, a < 256 → z8 a < 103 ∧ z8 a % 16 < 7 := by decide +kernel
theorem v1 : ∀ l : List Nat, (∀ a ∈ l, a < 256) → val8 l - ((val8 l / 2) &&& mk8 85 l.length) = val8 (l.map y8) ∧ ((val8 l / 2) &&& mk8 85 l.length) ≤ val8 l := by
  intro l
  induction l with
  | nil => intro _; exact ⟨rfl, Nat.le_refl _⟩
  | cons a l ih =>
    intro h
    have ha : a < 256 := h a (List.mem_cons_self)
    obtain ⟨i1, i2⟩ := ih (fun b hb => h b (List.mem_cons_of_mem _ hb))
    have e : ((val8 l * 256 + a) / 2) &&& (mk8 85 l.length * 256 + 85) = ((val8 l / 2) &&& mk8 85 l.length) * 256 + ((a / 2) &&& 85) := by
      rw [show (val8 l * 256 + a) / 2 = (val8 l / 2) * 256 + ((val8 l % 2) * 128 + a / 2) by omega, and8 (by omega) (by decide), d8a _ (Nat.mod_lt _ (by decide)) a ha]
    have le : (a / 2) &&& 85 ≤ a := Nat.le_trans Nat.and_le_left (Nat.div_le_self _ _)
    show (val8 l * 256 + a) - (((val8 l * 256 + a) / 2) &&& (mk8 85 l.length * 256 + 85)) = val8 (l.map y8) * 256 + (a - ((a / 2) &&& 85)) ∧ (((val8 l * 256 + a) / 2) &&& (mk8 85 l.length * 256 + 85)) ≤ val8 l * 256 + a
    rw [e, ← i1]
    omega
theorem v2 : ∀ l : List Nat, (∀ a ∈ l, a < 256) → (val8 l &&& mk8 51 l.length) + ((val8 l / 4) &&& mk8 51 l.length) = val8 (l.map z8) := by
  intro l
  induction l with
  | nil => intro _; rfl
  | cons a l ih =>
    intro h
    have ha : a < 256 := h a (List.mem_cons_self)
    have i1 := ih (fun b hb => h b (List.mem_cons_of_mem _ hb))
    have e : ((val8 l * 256 + a) / 4) &&& (mk8 51 l.length * 256 + 51) = ((val8 l / 4) &&& mk8 51 l.length) * 256 + ((a / 4) &&& 51) := by
      rw [show (val8 l * 256 + a) / 4 = (val8 l / 4) * 256 + ((val8 l % 4) * 64 + a / 4) by omega, and8 (by omega) (by decide), d8b _ (Nat.mod_lt _ (by decide)) a ha]
    show ((val8 l * 256 + a) &&& (mk8 51 l.length * 256 + 51)) + (((val8 l * 256 + a) / 4) &&& (mk8 51 l.length * 256 + 51)) = val8 (l.map z8) * 256 + ((a &&& 51) + ((a / 4) &&& 51))
    rw [e, and8 ha (by decide), ← i1]
    omega
theorem v3 : ∀ l : List Nat, (∀ a ∈ l, a < 103 ∧ a % 16 < 7) → (val8 l + val8 l / 16) &&& mk8 15 l.length = val8 (l.map w8) := by
  intro l
  induction l with
  | nil => intro _; rfl
  | cons a l ih =>
    intro h
    have ha := h a (List.mem_cons_self)
    have i1 := ih (fun b hb => h b (List.mem_cons_of_mem _ hb))
    have hl : val8 l % 16 < 7 := by
      cases l with
      | nil => decide
      | cons b l' =>
        have hb := h b (List.mem_cons_of_mem _ (List.mem_cons_self))
        show (val8 l' * 256 + b) % 16 < 7
        omega
    show ((val8 l * 256 + a) + (val8 l * 256 + a) / 16) &&& (mk8 15 l.length * 256 + 15) = val8 (l.map w8) * 256 + ((a + a / 16) &&& 15)
    rw [show (val8 l * 256 + a) + (val8 l * 256 + a) / 16 = (val8 l + val8 l / 16) * 256 + (a + a / 16 + (val8 l % 16) * 16) by omega, and8 (by omega) (by decide), d8c _ hl a ha.1, i1]
/-- how many of the first so many are so -/
def cb (p : Nat → Bool) : Nat → Nat
  | 0 => 0
  | k + 1 => cb p k + (if p k = true then 1 else 0)
theorem cb_succ (p : Nat → Bool) (k : Nat) : cb p (k + 1) = cb p k + (if p k = true then 1 else 0) := rfl
theorem cb_cong {p q : Nat → Bool} : ∀ k : Nat, (∀ i, i < k → p i = q i) → cb p k = cb q k := by
  intro k
  induction k with
  | zero => intro _; rfl
  | succ k ih =>
    intro h
    rw [cb_succ, cb_succ, ih (fun i hi => h i (by omega)), h k (by omega)]
theorem cb_add (p : Nat → Bool) (a : Nat) : ∀ b : Nat, cb p (a + b) = cb p a + cb (fun j => p (a + j)) b := by
  intro b
  induction b with
  | zero => rfl
  | succ b ih =>
    show cb p (a + b + 1) = _
    rw [cb_succ, ih, cb_succ, Nat.add_assoc]
theorem cb_le (p : Nat → Bool) : ∀ k : Nat, cb p k ≤ k := by
  intro k
  induction k with
  | zero => exact Nat.le_refl _
  | succ k ih =>
    rw [cb_succ]
    split <;> omega
theorem g8 : ∀ a, a < 256 → w8 (z8 (y8 a)) = cb (fun j => a.testBit j) 8 := by decide +kernel
theorem tbB (n k j : Nat) (hj : j < 8) : (n / 2 ^ k % 256).testBit j = n.testBit (k + j) := by
  rw [show (256 : Nat) = 2 ^ 8 from rfl, Nat.testBit_mod_two_pow, Nat.testBit_div_two_pow, Nat.add_comm]
  simp [hj]
theorem cb40 {n : Nat} (hn : n < 1099511627776) : cb (fun j => n.testBit j) 40 = w8 (z8 (y8 (n % 256))) + w8 (z8 (y8 (n / 256 % 256))) + w8 (z8 (y8 (n / 65536 % 256))) + w8 (z8 (y8 (n / 16777216 % 256))) + w8 (z8 (y8 (n / 4294967296 % 256))) := by
  have b : ∀ k : Nat, cb (fun j => (n / 2 ^ k % 256).testBit j) 8 = cb (fun j => n.testBit (k + j)) 8 := fun k => cb_cong 8 (fun j hj => tbB n k j hj)
  have b0 := b 0
  have b1 := b 8
  have b2 := b 16
  have b3 := b 24
  have b4 := b 32
  rw [g8 _ (Nat.mod_lt _ (by decide)), g8 _ (Nat.mod_lt _ (by decide)), g8 _ (Nat.mod_lt _ (by decide)), g8 _ (Nat.mod_lt _ (by decide)), g8 _ (Nat.mod_lt _ (by decide))]
  rw [show (2 : Nat) ^ 0 = 1 from rfl, Nat.div_one] at b0
  rw [show (2 : Nat) ^ 8 = 256 from rfl] at b1
  rw [show (2 : Nat) ^ 16 = 65536 from rfl] at b2
  rw [show (2 : Nat) ^ 24 = 16777216 from rfl] at b3
  rw [show (2 : Nat) ^ 32 = 4294967296 from rfl] at b4
  rw [b0, b1, b2, b3, b4, show (40 : Nat) = 32 + 8 from rfl, cb_add _ 32 8, show (32 : Nat) = 24 + 8 from rfl, cb_add _ 24 8, show (24 : Nat) = 16 + 8 from rfl, cb_add _ 16 8, show (16 : Nat) = 8 + 8 from rfl, cb_add _ 8 8]
  simp only [Nat.zero_add]
/-- a long as a natural number -/
def nn (x : Int64) : Nat := x.toBitVec.toNat
theorem nn_lt (x : Int64) : nn x < 18446744073709551616 := x.toBitVec.isLt
theorem nn_and (x y : Int64) : nn (x &&& y) = nn x &&& nn y := BitVec.toNat_and ..
theorem nn_add {x y : Int64} (h : nn x + nn y < 18446744073709551616) : nn (x + y) = nn x + nn y := by
  show (nn x + nn y) % 2 ^ 64 = _
  exact Nat.mod_eq_of_lt h
theorem nn_sub {x y : Int64} (h : nn y ≤ nn x) : nn (x - y) = nn x - nn y := by
  have h1 := nn_lt x
  show ((2 ^ 64 - nn y) + nn x) % 2 ^ 64 = _
  omega
theorem nn_shr (x : Int64) (c : UInt64) (k : Nat) (hc : c.toNat % 64 = k) : nn ((x.toUInt64 >>> c).toInt64) = nn x / 2 ^ k := by
  show (x.toUInt64 >>> c).toNat = _
  rw [UInt64.toNat_shiftRight, hc, Nat.shiftRight_eq_div_pow]
  rfl
theorem nn_lI {k : Nat} (h : k < 18446744073709551616) : nn (lI (k : Int)) = k := by
  show (BitVec.ofInt 64 (k : Int)).toNat = k
  rw [BitVec.toNat_ofInt]
  omega
def bl1 (x : Int64) : Int64 := x - (((x.toUInt64 >>> (((iI 1) : Int32).toInt64.toUInt64 &&& Int64.toUInt64 63)).toInt64) &&& (lI 6148914691236517205))
def bl2 (x : Int64) : Int64 := (x &&& (lI 3689348814741910323)) + (((x.toUInt64 >>> (((iI 2) : Int32).toInt64.toUInt64 &&& Int64.toUInt64 63)).toInt64) &&& (lI 3689348814741910323))
def bl3 (x : Int64) : Int64 := (x + ((x.toUInt64 >>> (((iI 4) : Int32).toInt64.toUInt64 &&& Int64.toUInt64 63)).toInt64)) &&& (lI 1085102592571150095)
def bl4 (x : Int64) : Int64 := x + ((x.toUInt64 >>> (((iI 8) : Int32).toInt64.toUInt64 &&& Int64.toUInt64 63)).toInt64)
def bl5 (x : Int64) : Int64 := x + ((x.toUInt64 >>> (((iI 16) : Int32).toInt64.toUInt64 &&& Int64.toUInt64 63)).toInt64)
def bl6 (x : Int64) : Int64 := x + ((x.toUInt64 >>> (((iI 32) : Int32).toInt64.toUInt64 &&& Int64.toUInt64 63)).toInt64)
theorem bl_eq (x : Int64) (σ : Sg) : f_Long_bitCount_95d88 x σ = some ((bl6 (bl5 (bl4 (bl3 (bl2 (bl1 x)))))).toInt32 &&& iI 127, σ) := rfl
theorem and127 (x : Int64) : x.toInt32 &&& iI 127 = iI ((nn x % 128 : Nat) : Int) := by
  apply Int32.toBitVec_inj.mp
  apply BitVec.eq_of_toNat_eq
  show ((x.toBitVec.signExtend 32) &&& (iI 127).toBitVec).toNat = (BitVec.ofInt 32 ((nn x % 128 : Nat) : Int)).toNat
  rw [BitVec.toNat_and, BitVec.toNat_ofInt, BitVec.signExtend_eq_setWidth_of_le _ (by decide), BitVec.toNat_setWidth, show (iI 127).toBitVec.toNat = 2 ^ 7 - 1 from rfl, Nat.and_two_pow_sub_one_eq_mod]
  show nn x % 2 ^ 32 % 2 ^ 7 = _
  omega
theorem x_lbc {x : Int64} (hx : nn x < 1099511627776) (σ : Sg) : f_Long_bitCount_95d88 x σ = some (iI ((cb (fun j => (nn x).testBit j) 40 : Nat) : Int), σ) := by
  have hb : ∀ a, a < 256 → y8 a < 256 := fun a ha => Nat.lt_of_le_of_lt (Nat.sub_le _ _) ha
  have hc : ∀ a, a < 256 → w8 (z8 (y8 a)) ≤ 8 := fun a ha => by rw [g8 a ha]; exact cb_le _ 8
  have c0 := hc _ (Nat.mod_lt (nn x) (show 256 > 0 by decide))
  have c1 := hc _ (Nat.mod_lt (nn x / 256) (show 256 > 0 by decide))
  have c2 := hc _ (Nat.mod_lt (nn x / 65536) (show 256 > 0 by decide))
  have c3 := hc _ (Nat.mod_lt (nn x / 16777216) (show 256 > 0 by decide))
  have c4 := hc _ (Nat.mod_lt (nn x / 4294967296) (show 256 > 0 by decide))
  have hl : ∀ a ∈ [nn x % 256, nn x / 256 % 256, nn x / 65536 % 256, nn x / 16777216 % 256, nn x / 4294967296 % 256, 0, 0, 0], a < 256 := by
    intro a ha
    simp only [List.mem_cons, List.not_mem_nil, or_false] at ha
    omega
  have e0 : val8 [nn x % 256, nn x / 256 % 256, nn x / 65536 % 256, nn x / 16777216 % 256, nn x / 4294967296 % 256, 0, 0, 0] = nn x := by
    simp only [val8]
    omega
  generalize hL : [nn x % 256, nn x / 256 % 256, nn x / 65536 % 256, nn x / 16777216 % 256, nn x / 4294967296 % 256, 0, 0, 0] = L at hl e0
  have hlen : L.length = 8 := by rw [← hL]; rfl
  obtain ⟨p1, p2⟩ := v1 L hl
  rw [hlen, e0, show mk8 85 8 = 6148914691236517205 from rfl] at p1 p2
  have n1 : nn (bl1 x) = val8 (L.map y8) := by
    have e : nn (((x.toUInt64 >>> (((iI 1) : Int32).toInt64.toUInt64 &&& Int64.toUInt64 63)).toInt64) &&& (lI 6148914691236517205)) = (nn x / 2) &&& 6148914691236517205 := by
      rw [nn_and, nn_shr x _ 1 (by decide)]
      rfl
    unfold bl1
    rw [nn_sub (by rw [e]; exact p2), e, p1]
  have hl1 : ∀ a ∈ L.map y8, a < 256 := by
    intro a ha
    obtain ⟨b, hb1, rfl⟩ := List.mem_map.mp ha
    exact hb b (hl b hb1)
  have q1 := v2 (L.map y8) hl1
  rw [List.length_map, hlen, show mk8 51 8 = 3689348814741910323 from rfl] at q1
  have n2 : nn (bl2 (bl1 x)) = val8 ((L.map y8).map z8) := by
    have e1 : nn ((bl1 x) &&& (lI 3689348814741910323)) = val8 (L.map y8) &&& 3689348814741910323 := by
      rw [nn_and, n1]
      rfl
    have e2 : nn ((((bl1 x).toUInt64 >>> (((iI 2) : Int32).toInt64.toUInt64 &&& Int64.toUInt64 63)).toInt64) &&& (lI 3689348814741910323)) = (val8 (L.map y8) / 4) &&& 3689348814741910323 := by
      rw [nn_and, nn_shr _ _ 2 (by decide), n1]
      rfl
    have l1 : val8 (L.map y8) &&& 3689348814741910323 ≤ 3689348814741910323 := Nat.and_le_right
    have l2 : (val8 (L.map y8) / 4) &&& 3689348814741910323 ≤ 3689348814741910323 := Nat.and_le_right
    unfold bl2
    rw [nn_add (by rw [e1, e2]; omega), e1, e2, q1]
  have hl2 : ∀ a ∈ (L.map y8).map z8, a < 103 ∧ a % 16 < 7 := by
    intro a ha
    obtain ⟨b, hb1, rfl⟩ := List.mem_map.mp ha
    exact z8_rg b (hl1 b hb1)
  have r1 := v3 ((L.map y8).map z8) hl2
  rw [List.length_map, List.length_map, hlen, show mk8 15 8 = 1085102592571150095 from rfl] at r1
  have hz : val8 ((L.map y8).map z8) ≤ 7378697629483820646 := by
    rw [← q1]
    have l1 : val8 (L.map y8) &&& 3689348814741910323 ≤ 3689348814741910323 := Nat.and_le_right
    have l2 : (val8 (L.map y8) / 4) &&& 3689348814741910323 ≤ 3689348814741910323 := Nat.and_le_right
    omega
  have n3 : nn (bl3 (bl2 (bl1 x))) = val8 (((L.map y8).map z8).map w8) := by
    have e2 : nn (((bl2 (bl1 x)).toUInt64 >>> (((iI 4) : Int32).toInt64.toUInt64 &&& Int64.toUInt64 63)).toInt64) = val8 ((L.map y8).map z8) / 16 := by
      rw [nn_shr _ _ 4 (by decide), n2]
    unfold bl3
    rw [nn_and, nn_add (by rw [e2, n2]; omega), e2, n2]
    exact r1
  have e3 : val8 (((L.map y8).map z8).map w8) = w8 (z8 (y8 (nn x % 256))) + 256 * w8 (z8 (y8 (nn x / 256 % 256))) + 65536 * w8 (z8 (y8 (nn x / 65536 % 256))) + 16777216 * w8 (z8 (y8 (nn x / 16777216 % 256))) + 4294967296 * w8 (z8 (y8 (nn x / 4294967296 % 256))) := by
    rw [← hL]
    simp only [List.map, val8, show w8 (z8 (y8 0)) = 0 from rfl]
    omega
  rw [cb40 hx]
  rw [e3] at n3
  generalize w8 (z8 (y8 (nn x % 256))) = a0 at *
  generalize w8 (z8 (y8 (nn x / 256 % 256))) = a1 at *
  generalize w8 (z8 (y8 (nn x / 65536 % 256))) = a2 at *
  generalize w8 (z8 (y8 (nn x / 16777216 % 256))) = a3 at *
  generalize w8 (z8 (y8 (nn x / 4294967296 % 256))) = a4 at *
  have n4 : nn (bl4 (bl3 (bl2 (bl1 x)))) = (a0 + a1) + 256 * (a1 + a2) + 65536 * (a2 + a3) + 16777216 * (a3 + a4) + 4294967296 * a4 := by
    have e2 : nn (((bl3 (bl2 (bl1 x))).toUInt64 >>> (((iI 8) : Int32).toInt64.toUInt64 &&& Int64.toUInt64 63)).toInt64) = a1 + 256 * a2 + 65536 * a3 + 16777216 * a4 := by
      rw [nn_shr _ _ 8 (by decide), n3, show (2 : Nat) ^ 8 = 256 from rfl]
      omega
    unfold bl4
    rw [nn_add (by rw [e2, n3]; omega), e2, n3]
    omega
  have n5 : nn (bl5 (bl4 (bl3 (bl2 (bl1 x))))) = (a0 + a1 + a2 + a3) + 256 * (a1 + a2 + a3 + a4) + 65536 * (a2 + a3 + a4) + 16777216 * (a3 + a4) + 4294967296 * a4 := by
    have e2 : nn (((bl4 (bl3 (bl2 (bl1 x)))).toUInt64 >>> (((iI 16) : Int32).toInt64.toUInt64 &&& Int64.toUInt64 63)).toInt64) = (a2 + a3) + 256 * (a3 + a4) + 65536 * a4 := by
      rw [nn_shr _ _ 16 (by decide), n4, show (2 : Nat) ^ 16 = 65536 from rfl]
      omega
    unfold bl5
    rw [nn_add (by rw [e2, n4]; omega), e2, n4]
    omega
  have n6 : nn (bl6 (bl5 (bl4 (bl3 (bl2 (bl1 x)))))) = (a0 + a1 + a2 + a3 + a4) + 256 * (a1 + a2 + a3 + a4) + 65536 * (a2 + a3 + a4) + 16777216 * (a3 + a4) + 4294967296 * a4 := by
    have e2 : nn (((bl5 (bl4 (bl3 (bl2 (bl1 x))))).toUInt64 >>> (((iI 32) : Int32).toInt64.toUInt64 &&& Int64.toUInt64 63)).toInt64) = a4 := by
      rw [nn_shr _ _ 32 (by decide), n5, show (2 : Nat) ^ 32 = 4294967296 from rfl]
      omega
    unfold bl6
    rw [nn_add (by rw [e2, n5]; omega), e2, n5]
    omega
  rw [bl_eq, and127, n6]
  refine congrArg (fun q : Nat => some (iI (q : Int), σ)) ?_
  omega
