/-! PURE: the tokens of a text, on both sides -/
theorem lI_add (a b : Int) : lI a + lI b = lI (a + b) := (Int64.ofInt_add a b).symm
theorem lI_sub (a b : Int) : lI a - lI b = lI (a - b) := (Int64.ofInt_sub a b).symm
theorem lI_mul (a b : Int) : lI a * lI b = lI (a * b) := (Int64.ofInt_mul a b).symm
theorem lI_to {a : Int} (h : -9223372036854775808 ≤ a ∧ a < 9223372036854775808) : (lI a).toInt = a := Int64.toInt_ofInt_of_le h.1 h.2
theorem iI_64 {a : Int} (h : -2147483648 ≤ a ∧ a < 2147483648) : (iI a).toInt64 = lI a := by
  have e : Int64.ofInt (iI a).toInt = (iI a).toInt64 := Int64.ofInt_int32ToInt (iI a)
  rw [← e, iI_to h]
  rfl
theorem lg_le {x y : Int64} : (lg_cmp x y ≤ iI 0) = (x.toInt ≤ y.toInt) := by
  have h := lg_gt (x := x) (y := y)
  have h1 : (lg_cmp x y ≤ iI 0) = ¬ (iI 0 < lg_cmp x y) := propext ⟨fun z w => absurd (Int32.lt_of_lt_of_le w z) (Int32.lt_irrefl), fun z => Int32.not_lt.mp z⟩
  rw [h1, h]
  exact propext ⟨fun z => Int.not_lt.mp z, fun z => Int.not_lt.mpr z⟩
/-- the class's tape, with its reading set -/
def xst (σ : Sg) (a b c d : Int32) : Sg := (fun t i j k => if t = 4 ∧ i = 0 ∧ j = 0 ∧ k = 1 then a else if t = 4 ∧ i = 0 ∧ j = 0 ∧ k = 2 then b else if t = 4 ∧ i = 0 ∧ j = 0 ∧ k = 3 then c else if t = 4 ∧ i = 0 ∧ j = 0 ∧ k = 4 then d else σ.1 t i j k, σ.2)
/-- the reference's reading set -/
def mst (σ : Sg) (a b c : Int32) (V : Int64) : Sg := (fun t i j k => if t = 6 ∧ i = 0 ∧ j = 0 ∧ k = 2 then a else if t = 6 ∧ i = 0 ∧ j = 0 ∧ k = 3 then b else if t = 6 ∧ i = 0 ∧ j = 0 ∧ k = 4 then c else σ.1 t i j k, fun t i j k => if t = 6 ∧ i = 0 ∧ j = 0 ∧ k = 0 then V else σ.2.1 t i j k, σ.2.2)
section ST
variable {σ : Sg} {a b c d e : Int32} {V U : Int64}
theorem xst_0 : (xst σ a b c d).1 4 0 0 0 = σ.1 4 0 0 0 := rfl
theorem xst_1 : (xst σ a b c d).1 4 0 0 1 = a := rfl
theorem xst_2 : (xst σ a b c d).1 4 0 0 2 = b := rfl
theorem xst_3 : (xst σ a b c d).1 4 0 0 3 = c := rfl
theorem xst_4 : (xst σ a b c d).1 4 0 0 4 = d := rfl
theorem xst_15 : (xst σ a b c d).1 15 = σ.1 15 := rfl
theorem mst_1 : (mst σ a b c V).1 6 0 0 1 = σ.1 6 0 0 1 := rfl
theorem mst_2 : (mst σ a b c V).1 6 0 0 2 = a := rfl
theorem mst_3 : (mst σ a b c V).1 6 0 0 3 = b := rfl
theorem mst_4 : (mst σ a b c V).1 6 0 0 4 = c := rfl
theorem mst_24 : (mst σ a b c V).1 24 = σ.1 24 := rfl
theorem mst_V : (mst σ a b c V).2.1 6 0 0 0 = V := rfl
theorem xst_u1 : upI (xst σ a b c d) 4 0 0 1 e = xst σ e b c d := by
  refine sg_ext ?_ rfl
  intro t i j k
  show (if t = 4 ∧ i = 0 ∧ j = 0 ∧ k = 1 then e else (xst σ a b c d).1 t i j k) = (xst σ e b c d).1 t i j k
  by_cases h : t = 4 ∧ i = 0 ∧ j = 0 ∧ k = 1
  · rw [if_pos h]; simp only [xst, if_pos h]
  · rw [if_neg h]; simp only [xst, if_neg h]
theorem xst_u2 : upI (xst σ a b c d) 4 0 0 2 e = xst σ a e c d := by
  refine sg_ext ?_ rfl
  intro t i j k
  show (if t = 4 ∧ i = 0 ∧ j = 0 ∧ k = 2 then e else (xst σ a b c d).1 t i j k) = (xst σ a e c d).1 t i j k
  by_cases h : t = 4 ∧ i = 0 ∧ j = 0 ∧ k = 2
  · rw [if_pos h]; simp only [xst, if_pos h, if_neg (show ¬ (t = 4 ∧ i = 0 ∧ j = 0 ∧ k = 1) by omega)]
  · rw [if_neg h]; simp only [xst, if_neg h]
theorem xst_u3 : upI (xst σ a b c d) 4 0 0 3 e = xst σ a b e d := by
  refine sg_ext ?_ rfl
  intro t i j k
  show (if t = 4 ∧ i = 0 ∧ j = 0 ∧ k = 3 then e else (xst σ a b c d).1 t i j k) = (xst σ a b e d).1 t i j k
  by_cases h : t = 4 ∧ i = 0 ∧ j = 0 ∧ k = 3
  · rw [if_pos h]; simp only [xst, if_pos h, if_neg (show ¬ (t = 4 ∧ i = 0 ∧ j = 0 ∧ k = 1) by omega), if_neg (show ¬ (t = 4 ∧ i = 0 ∧ j = 0 ∧ k = 2) by omega)]
  · rw [if_neg h]; simp only [xst, if_neg h]
theorem xst_u4 : upI (xst σ a b c d) 4 0 0 4 e = xst σ a b c e := by
  refine sg_ext ?_ rfl
  intro t i j k
  show (if t = 4 ∧ i = 0 ∧ j = 0 ∧ k = 4 then e else (xst σ a b c d).1 t i j k) = (xst σ a b c e).1 t i j k
  by_cases h : t = 4 ∧ i = 0 ∧ j = 0 ∧ k = 4
  · rw [if_pos h]; simp only [xst, if_pos h, if_neg (show ¬ (t = 4 ∧ i = 0 ∧ j = 0 ∧ k = 1) by omega), if_neg (show ¬ (t = 4 ∧ i = 0 ∧ j = 0 ∧ k = 2) by omega), if_neg (show ¬ (t = 4 ∧ i = 0 ∧ j = 0 ∧ k = 3) by omega)]
  · rw [if_neg h]; simp only [xst, if_neg h]
theorem xst_self : xst σ (σ.1 4 0 0 1) (σ.1 4 0 0 2) (σ.1 4 0 0 3) (σ.1 4 0 0 4) = σ := by
  refine sg_ext ?_ rfl
  intro t i j k
  show (if t = 4 ∧ i = 0 ∧ j = 0 ∧ k = 1 then σ.1 4 0 0 1 else if t = 4 ∧ i = 0 ∧ j = 0 ∧ k = 2 then σ.1 4 0 0 2 else if t = 4 ∧ i = 0 ∧ j = 0 ∧ k = 3 then σ.1 4 0 0 3 else if t = 4 ∧ i = 0 ∧ j = 0 ∧ k = 4 then σ.1 4 0 0 4 else σ.1 t i j k) = σ.1 t i j k
  split
  · rename_i h; obtain ⟨rfl, rfl, rfl, rfl⟩ := h; rfl
  split
  · rename_i h; obtain ⟨rfl, rfl, rfl, rfl⟩ := h; rfl
  split
  · rename_i h; obtain ⟨rfl, rfl, rfl, rfl⟩ := h; rfl
  split
  · rename_i h; obtain ⟨rfl, rfl, rfl, rfl⟩ := h; rfl
  · rfl
theorem xst_xst {a' b' c' d' : Int32} : xst (xst σ a b c d) a' b' c' d' = xst σ a' b' c' d' := by
  have h : xst σ a' b' c' d' = upI (upI (upI (upI (xst σ a b c d) 4 0 0 1 a') 4 0 0 2 b') 4 0 0 3 c') 4 0 0 4 d' := by rw [xst_u1, xst_u2, xst_u3, xst_u4]
  have h2 : xst (xst σ a b c d) a' b' c' d' = upI (upI (upI (upI (xst (xst σ a b c d) a b c d) 4 0 0 1 a') 4 0 0 2 b') 4 0 0 3 c') 4 0 0 4 d' := by rw [xst_u1, xst_u2, xst_u3, xst_u4]
  have h3 : xst (xst σ a b c d) a b c d = xst σ a b c d := xst_self (σ := xst σ a b c d)
  rw [h2, h3, h]
theorem xst_ag : Ag (P1 4 0 0) σ (xst σ a b c d) := by
  have h : xst σ a b c d = upI (upI (upI (upI σ 4 0 0 1 a) 4 0 0 2 b) 4 0 0 3 c) 4 0 0 4 d := by
    have h3 := xst_self (σ := σ)
    have h4 : upI (upI (upI (upI (xst σ (σ.1 4 0 0 1) (σ.1 4 0 0 2) (σ.1 4 0 0 3) (σ.1 4 0 0 4)) 4 0 0 1 a) 4 0 0 2 b) 4 0 0 3 c) 4 0 0 4 d = xst σ a b c d := by rw [xst_u1, xst_u2, xst_u3, xst_u4]
    rw [h3] at h4
    exact h4.symm
  rw [h]
  have q : P1 4 0 0 4 0 0 := ⟨rfl, rfl, rfl⟩
  exact (((Ag.upI q).tr (Ag.upI q)).tr (Ag.upI q)).tr (Ag.upI q)
theorem mst_u2 : upI (mst σ a b c V) 6 0 0 2 e = mst σ e b c V := by
  refine sg_ext ?_ rfl
  intro t i j k
  show (if t = 6 ∧ i = 0 ∧ j = 0 ∧ k = 2 then e else (mst σ a b c V).1 t i j k) = (mst σ e b c V).1 t i j k
  by_cases h : t = 6 ∧ i = 0 ∧ j = 0 ∧ k = 2
  · rw [if_pos h]; simp only [mst, if_pos h]
  · rw [if_neg h]; simp only [mst, if_neg h]
theorem mst_u3 : upI (mst σ a b c V) 6 0 0 3 e = mst σ a e c V := by
  refine sg_ext ?_ rfl
  intro t i j k
  show (if t = 6 ∧ i = 0 ∧ j = 0 ∧ k = 3 then e else (mst σ a b c V).1 t i j k) = (mst σ a e c V).1 t i j k
  by_cases h : t = 6 ∧ i = 0 ∧ j = 0 ∧ k = 3
  · rw [if_pos h]; simp only [mst, if_pos h, if_neg (show ¬ (t = 6 ∧ i = 0 ∧ j = 0 ∧ k = 2) by omega)]
  · rw [if_neg h]; simp only [mst, if_neg h]
theorem mst_u4 : upI (mst σ a b c V) 6 0 0 4 e = mst σ a b e V := by
  refine sg_ext ?_ rfl
  intro t i j k
  show (if t = 6 ∧ i = 0 ∧ j = 0 ∧ k = 4 then e else (mst σ a b c V).1 t i j k) = (mst σ a b e V).1 t i j k
  by_cases h : t = 6 ∧ i = 0 ∧ j = 0 ∧ k = 4
  · rw [if_pos h]; simp only [mst, if_pos h, if_neg (show ¬ (t = 6 ∧ i = 0 ∧ j = 0 ∧ k = 2) by omega), if_neg (show ¬ (t = 6 ∧ i = 0 ∧ j = 0 ∧ k = 3) by omega)]
  · rw [if_neg h]; simp only [mst, if_neg h]
theorem mst_uV : upL (mst σ a b c V) 6 0 0 0 U = mst σ a b c U := by
  have h : (fun t i j k => if t = 6 ∧ i = 0 ∧ j = 0 ∧ k = 0 then U else (mst σ a b c V).2.1 t i j k) = (mst σ a b c U).2.1 := by
    funext t i j k
    by_cases h : t = 6 ∧ i = 0 ∧ j = 0 ∧ k = 0
    · simp only [mst, if_pos h]
    · simp only [mst, if_neg h]
  show ((mst σ a b c V).1, (fun t i j k => if t = 6 ∧ i = 0 ∧ j = 0 ∧ k = 0 then U else (mst σ a b c V).2.1 t i j k), (mst σ a b c V).2.2) = _
  rw [h]
  rfl
theorem mst_self : mst σ (σ.1 6 0 0 2) (σ.1 6 0 0 3) (σ.1 6 0 0 4) (σ.2.1 6 0 0 0) = σ := by
  have h1 : (mst σ (σ.1 6 0 0 2) (σ.1 6 0 0 3) (σ.1 6 0 0 4) (σ.2.1 6 0 0 0)).1 = σ.1 := by
    funext t i j k
    show (if t = 6 ∧ i = 0 ∧ j = 0 ∧ k = 2 then σ.1 6 0 0 2 else if t = 6 ∧ i = 0 ∧ j = 0 ∧ k = 3 then σ.1 6 0 0 3 else if t = 6 ∧ i = 0 ∧ j = 0 ∧ k = 4 then σ.1 6 0 0 4 else σ.1 t i j k) = σ.1 t i j k
    split
    · rename_i h; obtain ⟨rfl, rfl, rfl, rfl⟩ := h; rfl
    split
    · rename_i h; obtain ⟨rfl, rfl, rfl, rfl⟩ := h; rfl
    split
    · rename_i h; obtain ⟨rfl, rfl, rfl, rfl⟩ := h; rfl
    · rfl
  have h2 : (mst σ (σ.1 6 0 0 2) (σ.1 6 0 0 3) (σ.1 6 0 0 4) (σ.2.1 6 0 0 0)).2.1 = σ.2.1 := by
    funext t i j k
    show (if t = 6 ∧ i = 0 ∧ j = 0 ∧ k = 0 then σ.2.1 6 0 0 0 else σ.2.1 t i j k) = σ.2.1 t i j k
    split
    · rename_i h; obtain ⟨rfl, rfl, rfl, rfl⟩ := h; rfl
    · rfl
  show ((mst σ (σ.1 6 0 0 2) (σ.1 6 0 0 3) (σ.1 6 0 0 4) (σ.2.1 6 0 0 0)).1, (mst σ (σ.1 6 0 0 2) (σ.1 6 0 0 3) (σ.1 6 0 0 4) (σ.2.1 6 0 0 0)).2.1, σ.2.2) = σ
  rw [h1, h2]
theorem mst_mst {a' b' c' : Int32} {V' : Int64} : mst (mst σ a b c V) a' b' c' V' = mst σ a' b' c' V' := by
  have h : mst σ a' b' c' V' = upL (upI (upI (upI (mst σ a b c V) 6 0 0 2 a') 6 0 0 3 b') 6 0 0 4 c') 6 0 0 0 V' := by rw [mst_u2, mst_u3, mst_u4, mst_uV]
  have h2 : mst (mst σ a b c V) a' b' c' V' = upL (upI (upI (upI (mst (mst σ a b c V) a b c V) 6 0 0 2 a') 6 0 0 3 b') 6 0 0 4 c') 6 0 0 0 V' := by rw [mst_u2, mst_u3, mst_u4, mst_uV]
  have h3 : mst (mst σ a b c V) a b c V = mst σ a b c V := mst_self (σ := mst σ a b c V)
  rw [h2, h3, h]
theorem mst_ag : Ag (P1 6 0 0) σ (mst σ a b c V) := by
  have h : mst σ a b c V = upL (upI (upI (upI σ 6 0 0 2 a) 6 0 0 3 b) 6 0 0 4 c) 6 0 0 0 V := by
    have h3 := mst_self (σ := σ)
    have h4 : upL (upI (upI (upI (mst σ (σ.1 6 0 0 2) (σ.1 6 0 0 3) (σ.1 6 0 0 4) (σ.2.1 6 0 0 0)) 6 0 0 2 a) 6 0 0 3 b) 6 0 0 4 c) 6 0 0 0 V = mst σ a b c V := by rw [mst_u2, mst_u3, mst_u4, mst_uV]
    rw [h3] at h4
    exact h4.symm
  rw [h]
  have q : P1 6 0 0 6 0 0 := ⟨rfl, rfl, rfl⟩
  exact (((Ag.upI q).tr (Ag.upI q)).tr (Ag.upI q)).tr (Ag.upL q)
theorem mst_sS {w : Ro} : mst (sS σ w) a b c V = sS (mst σ a b c V) w := by
  refine sg_ext ?_ rfl
  intro t i j k
  by_cases ht : t = 20
  · subst ht
    show (if 20 = 6 ∧ i = 0 ∧ j = 0 ∧ k = 2 then a else if 20 = 6 ∧ i = 0 ∧ j = 0 ∧ k = 3 then b else if 20 = 6 ∧ i = 0 ∧ j = 0 ∧ k = 4 then c else (sS σ w).1 20 i j k) = (if 20 = 20 ∧ i = 0 ∧ j = 0 then (if k < 66 then iI (w k) else (mst σ a b c V).1 20 0 0 k) else (mst σ a b c V).1 20 i j k)
    rw [if_neg (fun z => absurd z.1 (by decide)), if_neg (fun z => absurd z.1 (by decide)), if_neg (fun z => absurd z.1 (by decide))]
    rfl
  · have e1 : (sS (mst σ a b c V) w).1 t = (mst σ a b c V).1 t := r66_ne ht
    have e2 : (sS σ w).1 t = σ.1 t := r66_ne ht
    rw [e1]
    show (if t = 6 ∧ i = 0 ∧ j = 0 ∧ k = 2 then a else if t = 6 ∧ i = 0 ∧ j = 0 ∧ k = 3 then b else if t = 6 ∧ i = 0 ∧ j = 0 ∧ k = 4 then c else (sS σ w).1 t i j k) = (if t = 6 ∧ i = 0 ∧ j = 0 ∧ k = 2 then a else if t = 6 ∧ i = 0 ∧ j = 0 ∧ k = 3 then b else if t = 6 ∧ i = 0 ∧ j = 0 ∧ k = 4 then c else σ.1 t i j k)
    rw [e2]
end ST
def clT (b : Int) : Int := if 97 ≤ b ∧ b ≤ 122 then 1 else if 48 ≤ b ∧ b ≤ 57 then 2 else if b = 59 then 3 else 4
theorem x_cl {b : Int} (hb : 0 ≤ b ∧ b ≤ 255) (σ : Sg) : f_Tape_tokenBegunBy (iI b) σ = some (iI (clT b), σ) := by
  unfold f_Tape_tokenBegunBy j_Tape_tokenBegunBy_14 j_Tape_tokenBegunBy_28 clT
  simp (disch := omega) only [iI_lt, iI_eq]
  repeat' split
  all_goals first | rfl | (exfalso; omega)
theorem m_let {b : Int} (hb : 0 ≤ b ∧ b ≤ 255) (σ : Sg) : f_M_isLetter (iI b) σ = some (if 97 ≤ b ∧ b ≤ 122 then iI 1 else iI 0, σ) := by
  unfold f_M_isLetter
  rw [m_in1 _ _ _ (by omega) (by omega) (by omega), b2s, bo_if, obs]
theorem m_dig {b : Int} (hb : 0 ≤ b ∧ b ≤ 255) (σ : Sg) : f_M_isDigit (iI b) σ = some (if 48 ≤ b ∧ b ≤ 57 then iI 1 else iI 0, σ) := by
  unfold f_M_isDigit
  rw [m_in1 _ _ _ (by omega) (by omega) (by omega), b2s, bo_if, obs]
/-- numbers and words, read so far -/
def nvN (bs : Nat → Int) (p : Nat) : Nat → Int
  | 0 => 0
  | i + 1 => if 10 * nvN bs p i + bs (p + i) - 48 < 1000 then 10 * nvN bs p i + bs (p + i) - 48 else 1000
def mvN (bs : Nat → Int) (p : Nat) : Nat → Int
  | 0 => 0
  | i + 1 => if mvN bs p i ≤ 999 then mvN bs p i * 10 + bs (p + i) - 48 else mvN bs p i
def wvN (bs : Nat → Int) (p : Nat) : Nat → Int
  | 0 => 0
  | i + 1 => if wvN bs p i ≤ 9999999999999 then wvN bs p i * 27 + bs (p + i) - 96 else wvN bs p i
theorem nvN_succ (bs : Nat → Int) (p i : Nat) : nvN bs p (i + 1) = if 10 * nvN bs p i + bs (p + i) - 48 < 1000 then 10 * nvN bs p i + bs (p + i) - 48 else 1000 := rfl
theorem mvN_succ (bs : Nat → Int) (p i : Nat) : mvN bs p (i + 1) = if mvN bs p i ≤ 999 then mvN bs p i * 10 + bs (p + i) - 48 else mvN bs p i := rfl
theorem wvN_succ (bs : Nat → Int) (p i : Nat) : wvN bs p (i + 1) = if wvN bs p i ≤ 9999999999999 then wvN bs p i * 27 + bs (p + i) - 96 else wvN bs p i := rfl
theorem mvN_rg {bs : Nat → Int} {p : Nat} : ∀ n : Nat, (∀ i, i < n → 48 ≤ bs (p + i) ∧ bs (p + i) ≤ 57) → (0 ≤ mvN bs p n ∧ mvN bs p n ≤ 9999) ∧ nvN bs p n = if mvN bs p n ≤ 999 then mvN bs p n else 1000 := by
  intro n
  induction n with
  | zero => intro _; exact ⟨⟨Int.le_refl 0, by show (0 : Int) ≤ 9999; decide⟩, rfl⟩
  | succ n ih =>
    intro h
    obtain ⟨i1, i2⟩ := ih (fun i hi => h i (by omega))
    have hn := h n (by omega)
    rw [mvN_succ, nvN_succ]
    by_cases e : mvN bs p n ≤ 999
    · rw [if_pos e] at i2
      rw [if_pos e, i2]
      refine ⟨by omega, ?_⟩
      by_cases e2 : 10 * mvN bs p n + bs (p + n) - 48 < 1000
      · rw [if_pos e2, if_pos (by omega)]; omega
      · rw [if_neg e2, if_neg (by omega)]
    · rw [if_neg e] at i2
      rw [if_neg e, i2, if_neg e, if_neg (by omega)]
      exact ⟨i1, rfl⟩
theorem wvN_rg {bs : Nat → Int} {p : Nat} : ∀ n : Nat, (∀ i, i < n → 97 ≤ bs (p + i) ∧ bs (p + i) ≤ 122) → 0 ≤ wvN bs p n ∧ wvN bs p n ≤ 270000000000000 := by
  intro n
  induction n with
  | zero => intro _; exact ⟨Int.le_refl 0, by show (0 : Int) ≤ 270000000000000; decide⟩
  | succ n ih =>
    intro h
    have i1 := ih (fun i hi => h i (by omega))
    have hn := h n (by omega)
    rw [wvN_succ]
    split <;> omega
def xvT (bs : Nat → Int) (t : Int) (p q : Nat) : Int := if t = 2 then nvN bs p (q - p) else 0
def mtT (bs : Nat → Int) (t : Int) (p q : Nat) : Int := if t = 2 ∧ 999 < mvN bs p (q - p) then 4 else t
def mvT (bs : Nat → Int) (t : Int) (p q : Nat) : Int := if t = 1 then wvN bs p (q - p) else if t = 2 then mvN bs p (q - p) else 0
def XB (σ : Sg) (len : Nat) (bs : Nat → Int) : Prop := σ.1 4 0 0 0 = iI (len : Int) ∧ ∀ j, j < len → σ.1 15 0 0 j = iI (bs j)
def MB (σ : Sg) (len : Nat) (bs : Nat → Int) : Prop := σ.1 6 0 0 1 = iI (len : Int) ∧ ∀ j, j < len → σ.1 24 0 0 j = iI (bs j)
def Tx (len : Nat) (bs : Nat → Int) : Prop := len ≤ 120 ∧ ∀ j, j < len → 0 ≤ bs j ∧ bs j ≤ 255
/-- where a token stands: p to q, of class t -/
def TF (len : Nat) (bs : Nat → Int) (q0 p q : Nat) (t : Int) : Prop := q0 ≤ p ∧ p ≤ len ∧ (p = len → t = 0 ∧ q = p) ∧ (p < len → t = clT (bs p) ∧ bs p ≠ 32) ∧ (∀ j, q0 ≤ j → j < p → bs j = 32) ∧ (p < len → (t = 1 ∨ t = 2) → p < q ∧ q ≤ len ∧ (∀ j, p ≤ j → j < q → clT (bs j) = t) ∧ (q < len → ¬ clT (bs q) = t)) ∧ (p < len → ¬ (t = 1 ∨ t = 2) → q = p + 1)
theorem tf_ex {len : Nat} {bs : Nat → Int} {q0 : Nat} (h0 : q0 ≤ len) : ∃ p q t, TF len bs q0 p q t := by
  obtain ⟨d, d1, d2, d3⟩ := first_ex (p := fun d => q0 + d < len ∧ bs (q0 + d) = 32) (len - q0) (by omega)
  have hs : ∀ j, q0 ≤ j → j < q0 + d → bs j = 32 := by
    intro j h1 h2
    have := (d2 (j - q0) (by omega)).2
    rw [show q0 + (j - q0) = j by omega] at this
    exact this
  by_cases hp : q0 + d < len
  · by_cases ht : clT (bs (q0 + d)) = 1 ∨ clT (bs (q0 + d)) = 2
    · obtain ⟨e, e1, e2, e3⟩ := first_ex (p := fun e => q0 + d + e < len ∧ clT (bs (q0 + d + e)) = clT (bs (q0 + d))) (len - (q0 + d)) (by omega)
      have he : 0 < e := by
        refine Nat.pos_of_ne_zero (fun z => ?_)
        subst z
        exact e3 ⟨hp, rfl⟩
      refine ⟨q0 + d, q0 + d + e, clT (bs (q0 + d)), by omega, by omega, fun z => absurd z (by omega), fun _ => ⟨rfl, fun z => d3 ⟨hp, z⟩⟩, hs, fun _ _ => ⟨by omega, by omega, fun j h1 h2 => ?_, fun h1 h2 => e3 ⟨h1, h2⟩⟩, fun _ z => absurd ht z⟩
      have := (e2 (j - (q0 + d)) (by omega)).2
      rw [show q0 + d + (j - (q0 + d)) = j by omega] at this
      exact this
    · exact ⟨q0 + d, q0 + d + 1, clT (bs (q0 + d)), by omega, by omega, fun z => absurd z (by omega), fun _ => ⟨rfl, fun z => d3 ⟨hp, z⟩⟩, hs, fun _ z => absurd z ht, fun _ _ => rfl⟩
  · exact ⟨q0 + d, q0 + d, 0, by omega, by omega, fun _ => ⟨rfl, rfl⟩, fun z => absurd z hp, hs, fun z => absurd z hp, fun z => absurd z hp⟩
theorem clT_rg (b : Int) : 1 ≤ clT b ∧ clT b ≤ 4 := by
  unfold clT
  repeat' split
  all_goals omega
theorem clT_1 {b : Int} : clT b = 1 ↔ 97 ≤ b ∧ b ≤ 122 := by
  unfold clT
  repeat' split
  all_goals omega
theorem clT_2 {b : Int} : clT b = 2 ↔ 48 ≤ b ∧ b ≤ 57 := by
  unfold clT
  repeat' split
  all_goals omega
theorem clT_3 {b : Int} : clT b = 3 ↔ b = 59 := by
  unfold clT
  repeat' split
  all_goals omega
