/-! PURE: numbers -/
theorem iI_add (a b : Int) : iI a + iI b = iI (a + b) := (Int32.ofInt_add a b).symm
theorem iI_sub (a b : Int) : iI a - iI b = iI (a - b) := (Int32.ofInt_sub a b).symm
theorem iI_mul (a b : Int) : iI a * iI b = iI (a * b) := (Int32.ofInt_mul a b).symm
theorem iI_to {a : Int} (h : -2147483648 ≤ a ∧ a < 2147483648) : (iI a).toInt = a := Int32.toInt_ofInt_of_le h.1 h.2
theorem iI_lt {a b : Int} (ha : -2147483648 ≤ a ∧ a < 2147483648) (hb : -2147483648 ≤ b ∧ b < 2147483648) : (iI a < iI b) = (a < b) := by
  rw [Int32.lt_iff_toInt_lt, iI_to ha, iI_to hb]
theorem iI_le {a b : Int} (ha : -2147483648 ≤ a ∧ a < 2147483648) (hb : -2147483648 ≤ b ∧ b < 2147483648) : (iI a ≤ iI b) = (a ≤ b) := by
  rw [Int32.le_iff_toInt_le, iI_to ha, iI_to hb]
theorem iI_eq {a b : Int} (ha : -2147483648 ≤ a ∧ a < 2147483648) (hb : -2147483648 ≤ b ∧ b < 2147483648) : (iI a = iI b) = (a = b) := by
  rw [← Int32.toInt_inj, iI_to ha, iI_to hb]
theorem iI_clamp {a : Int} (h0 : 0 ≤ a) (h1 : a < 2147483648) : (iI a).toNatClampNeg = a.toNat := Int32.toNatClampNeg_ofInt_of_le (by omega) (by omega)
theorem iI_div {a b : Int} (ha : 0 ≤ a ∧ a < 2147483648) (hb : 0 < b ∧ b < 2147483648) : iI a / iI b = iI (a / b) := by
  have h : a.tdiv b = a / b := Int.tdiv_eq_ediv_of_nonneg ha.1
  apply Int32.toInt_inj.mp
  have hd : 0 ≤ a / b := Int.ediv_nonneg ha.1 (by omega)
  have hd2 : a / b ≤ a := Int.ediv_le_self _ ha.1
  rw [Int32.toInt_div_of_ne_right _ _ (fun e => by
    have := congrArg Int32.toInt e
    rw [iI_to (by omega)] at this
    have h1 : (-1 : Int32).toInt = -1 := rfl
    rw [h1] at this
    omega), iI_to (by omega), iI_to (by omega), iI_to (by omega), h]
theorem iN (n : Nat) : iI (n : Int) = nI n := Int32.ofInt_eq_ofNat
theorem rd_iI {a : Int} {n : Nat} (h0 : 0 ≤ a) (h1 : a < n) (hn : n ≤ 100000) : rd (iI a) n = some a.toNat := by
  unfold rd
  rw [iI_clamp h0 (by omega), if_neg]
  intro h
  rcases h with h | h
  · rw [show (0 : Int32) = iI 0 from rfl, iI_lt (by omega) (by omega)] at h
    omega
  · omega
theorem rd_N {k n : Nat} (h1 : k < n) (hn : n ≤ 100000) : rd (iI (k : Int)) n = some k := by
  rw [rd_iI (by omega) (by omega) hn]
  rfl
theorem b2s {α β : Type} (v : α) (σ : Sg) (f : α → Sg → Option β) : b2 (some (v, σ)) f = f v σ := rfl
theorem obs {α β : Type} (v : α) (f : α → Option β) : Option.bind (some v) f = f v := rfl
/-- a loop of n rounds -/
theorem lp_run {α β : Type} {body : α → Option (α ⊕ β)} (St : Nat → α) (b : β) : ∀ (n m : Nat), (∀ i, i < n → body (St i) = some (.inl (St (i + 1)))) → body (St n) = some (.inr b) → n < m → lp body m (St 0) = some b := by
  suffices h : ∀ (n m j : Nat), (∀ i, j ≤ i → i < j + n → body (St i) = some (.inl (St (i + 1)))) → body (St (j + n)) = some (.inr b) → n < m → lp body m (St j) = some b from fun n m h1 h2 h3 => h n m 0 (fun i _ h => h1 i (by omega)) (by rw [Nat.zero_add]; exact h2) h3
  intro n
  induction n with
  | zero =>
    intro m j h1 h2 h3
    cases m with
    | zero => omega
    | succ m =>
      unfold lp
      rw [show j + 0 = j from rfl] at h2
      rw [h2]
  | succ n ih =>
    intro m j h1 h2 h3
    cases m with
    | zero => omega
    | succ m =>
      unfold lp
      rw [h1 j (Nat.le_refl _) (by omega)]
      exact ih m (j + 1) (fun i h4 h5 => h1 i (by omega) (by omega)) (by rw [show j + 1 + n = j + (n + 1) by omega]; exact h2) (by omega)
/-! PURE: rows of 66 -/
def r66 (σ : Sg) (t : Nat) (f : Nat → Int32) : Sg := roI σ t 0 0 (fun j => if j < 66 then f j else σ.1 t 0 0 j)
theorem r66_at {σ : Sg} {t j : Nat} {f : Nat → Int32} (h : j < 66) : (r66 σ t f).1 t 0 0 j = f j := by
  unfold r66
  rw [roI_row]
  exact if_pos h
theorem r66_ge {σ : Sg} {t j : Nat} {f : Nat → Int32} (h : ¬ j < 66) : (r66 σ t f).1 t 0 0 j = σ.1 t 0 0 j := by
  unfold r66
  rw [roI_row]
  exact if_neg h
theorem roI_ne {σ : Sg} {t i j t' : Nat} {f : Nat → Int32} (h : t' ≠ t) : (roI σ t i j f).1 t' = σ.1 t' := by
  funext i' j' k'
  exact if_neg (fun z => h z.1)
theorem r66_ne {σ : Sg} {t t' : Nat} {f : Nat → Int32} (h : t' ≠ t) : (r66 σ t f).1 t' = σ.1 t' := roI_ne h
theorem r66_2 {σ : Sg} {t : Nat} {f : Nat → Int32} : (r66 σ t f).2 = σ.2 := rfl
theorem sg_ext {a b : Sg} (h1 : ∀ t i j k, a.1 t i j k = b.1 t i j k) (h2 : a.2 = b.2) : a = b := by
  obtain ⟨a1, a2⟩ := a
  obtain ⟨b1, b2⟩ := b
  simp only at h1 h2
  rw [h2, show a1 = b1 from by funext t i j k; exact h1 t i j k]
theorem r66_self {σ : Sg} {t : Nat} {f : Nat → Int32} (h : ∀ j, j < 66 → σ.1 t 0 0 j = f j) : r66 σ t f = σ := by
  refine sg_ext ?_ rfl
  intro t' i j k
  show (if t' = t ∧ i = 0 ∧ j = 0 then (if k < 66 then f k else σ.1 t 0 0 k) else σ.1 t' i j k) = _
  split
  · rename_i hq
    obtain ⟨rfl, rfl, rfl⟩ := hq
    split
    · rw [h k (by assumption)]
    · rfl
  · rfl
theorem r66_r66 {σ : Sg} {t : Nat} {f g : Nat → Int32} : r66 (r66 σ t f) t g = r66 σ t g := by
  refine sg_ext ?_ rfl
  intro t' i j k
  show (if t' = t ∧ i = 0 ∧ j = 0 then (if k < 66 then g k else (r66 σ t f).1 t 0 0 k) else (r66 σ t f).1 t' i j k) = (if t' = t ∧ i = 0 ∧ j = 0 then (if k < 66 then g k else σ.1 t 0 0 k) else σ.1 t' i j k)
  split
  · split
    · rfl
    · rw [r66_ge (by assumption)]
  · rename_i hq
    exact if_neg hq
theorem r66_comm {σ : Sg} {t u : Nat} {f g : Nat → Int32} (h : t ≠ u) : r66 (r66 σ t f) u g = r66 (r66 σ u g) t f := by
  refine sg_ext ?_ rfl
  intro t' i j k
  show (if t' = u ∧ i = 0 ∧ j = 0 then (if k < 66 then g k else (r66 σ t f).1 u 0 0 k) else (r66 σ t f).1 t' i j k) = (if t' = t ∧ i = 0 ∧ j = 0 then (if k < 66 then f k else (r66 σ u g).1 t 0 0 k) else (r66 σ u g).1 t' i j k)
  rw [r66_ne (Ne.symm h), r66_ne h]
  show (if t' = u ∧ i = 0 ∧ j = 0 then (if k < 66 then g k else σ.1 u 0 0 k) else (if t' = t ∧ i = 0 ∧ j = 0 then (if k < 66 then f k else σ.1 t 0 0 k) else σ.1 t' i j k)) = (if t' = t ∧ i = 0 ∧ j = 0 then (if k < 66 then f k else σ.1 t 0 0 k) else (if t' = u ∧ i = 0 ∧ j = 0 then (if k < 66 then g k else σ.1 u 0 0 k) else σ.1 t' i j k))
  by_cases h1 : t' = u
  · subst h1
    have hn : ¬ (t' = t ∧ i = 0 ∧ j = 0) := fun z => h z.1.symm
    simp only [if_neg hn]
  · rw [if_neg (c := t' = u ∧ i = 0 ∧ j = 0) (fun z => h1 z.1), if_neg (c := t' = u ∧ i = 0 ∧ j = 0) (fun z => h1 z.1)]
/-- the reference's row, as numbers -/
def sS (σ : Sg) (s : Nat → Int) : Sg := r66 σ 20 (fun j => iI (s j))
def aS (σ : Sg) (s : Nat → Int) : Sg := r66 σ 22 (fun j => iI (s j))
def kS (σ : Sg) (s : Nat → Int) : Sg := r66 σ 21 (fun j => iI (s j))
def up (s : Nat → Int) (k : Nat) (v : Int) : Nat → Int := fun j => if j = k then v else s j
theorem up_same {s : Nat → Int} {k : Nat} {v : Int} : up s k v k = v := if_pos rfl
theorem up_ne {s : Nat → Int} {k j : Nat} {v : Int} (h : j ≠ k) : up s k v j = s j := if_neg h
theorem sS_at {σ : Sg} {s : Nat → Int} {j : Nat} (h : j < 66) : (sS σ s).1 20 0 0 j = iI (s j) := r66_at h
theorem sS_up {σ : Sg} {s : Nat → Int} {j : Nat} (h : j < 66) (v : Int) : upI (sS σ s) 20 0 0 j (iI v) = sS σ (up s j v) := by
  refine sg_ext ?_ rfl
  intro t' i j' k
  show (if t' = 20 ∧ i = 0 ∧ j' = 0 ∧ k = j then iI v else (sS σ s).1 t' i j' k) = (sS σ (up s j v)).1 t' i j' k
  split
  · rename_i hq
    obtain ⟨rfl, rfl, rfl, rfl⟩ := hq
    rw [sS_at h, up_same]
  · rename_i hq
    show (if t' = 20 ∧ i = 0 ∧ j' = 0 then (if k < 66 then iI (s k) else σ.1 20 0 0 k) else σ.1 t' i j' k) = (if t' = 20 ∧ i = 0 ∧ j' = 0 then (if k < 66 then iI (up s j v k) else σ.1 20 0 0 k) else σ.1 t' i j' k)
    split
    · rename_i h2
      rw [up_ne (fun e => hq ⟨h2.1, h2.2.1, h2.2.2, e⟩)]
    · rfl
theorem sS_sS {σ : Sg} {a b : Nat → Int} : sS (sS σ a) b = sS σ b := r66_r66
theorem aS_aS {σ : Sg} {a b : Nat → Int} : aS (aS σ a) b = aS σ b := r66_r66
theorem asS {σ : Sg} {a b : Nat → Int} : aS (sS σ b) a = sS (aS σ a) b := r66_comm (by decide)
theorem ksS {σ : Sg} {a b : Nat → Int} : kS (sS σ b) a = sS (kS σ a) b := r66_comm (by decide)
/-- what is between two rows of 66, copied one by one -/
theorem copy66 {σ : Sg} {t u : Nat} (htu : t ≠ u) (body : Int32 → Sg → Option ((Int32 × Sg) ⊕ Sg)) (hb : body = fun x1 σ => (if (iI 66) ≤ x1 then some (.inr σ) else Option.bind (rd x1 66) (fun j1 => Option.bind (rd x1 66) (fun j3 => some (.inl (x1 + (iI 1), upI σ u 0 0 j3 (σ.1 t 0 0 j1))))))) : lp (fun a => body a.1 a.2) FU (iI 0, σ) = some (r66 σ u (σ.1 t 0 0)) := by
  subst hb
  have e : (iI 0, σ) = (iI ((0 : Nat) : Int), roI σ u 0 0 (fun j => if j < 0 then σ.1 t 0 0 j else σ.1 u 0 0 j)) := by
    refine congrArg (fun z => (iI 0, z)) ?_
    refine sg_ext ?_ rfl
    intro t' i' j' k'
    show σ.1 t' i' j' k' = (if t' = u ∧ i' = 0 ∧ j' = 0 then (if k' < 0 then σ.1 t 0 0 k' else σ.1 u 0 0 k') else σ.1 t' i' j' k')
    split
    · rename_i hq
      obtain ⟨rfl, rfl, rfl⟩ := hq
      rw [if_neg (by omega)]
    · rfl
  rw [e]
  refine lp_run (fun i => (iI (i : Int), roI σ u 0 0 (fun j => if j < i then σ.1 t 0 0 j else σ.1 u 0 0 j))) (r66 σ u (σ.1 t 0 0)) 66 FU ?_ ?_ (by decide)
  · intro i hi
    show (if iI 66 ≤ iI (i : Int) then _ else _) = _
    rw [if_neg (by rw [iI_le (by omega) (by omega)]; omega), rd_N hi (by decide)]
    show some (Sum.inl (iI (i : Int) + iI 1, upI (roI σ u 0 0 _) u 0 0 i ((roI σ u 0 0 _).1 t 0 0 i))) = _
    rw [roI_ne htu, iI_add]
    refine congrArg (fun z => some (Sum.inl ((iI ((i : Int) + 1) : Int32), z))) ?_
    refine sg_ext ?_ rfl
    intro t' i' j' k'
    show (if t' = u ∧ i' = 0 ∧ j' = 0 ∧ k' = i then σ.1 t 0 0 i else (if t' = u ∧ i' = 0 ∧ j' = 0 then (if k' < i then σ.1 t 0 0 k' else σ.1 u 0 0 k') else σ.1 t' i' j' k')) = (if t' = u ∧ i' = 0 ∧ j' = 0 then (if k' < i + 1 then σ.1 t 0 0 k' else σ.1 u 0 0 k') else σ.1 t' i' j' k')
    by_cases h1 : t' = u ∧ i' = 0 ∧ j' = 0
    · rw [if_pos h1, if_pos h1]
      by_cases h2 : k' = i
      · rw [if_pos ⟨h1.1, h1.2.1, h1.2.2, h2⟩, if_pos (by omega), h2]
      · rw [if_neg (fun z => h2 z.2.2.2)]
        by_cases h3 : k' < i
        · rw [if_pos h3, if_pos (by omega)]
        · rw [if_neg h3, if_neg (by omega)]
    · rw [if_neg h1, if_neg h1, if_neg (fun z => h1 ⟨z.1, z.2.1, z.2.2.1⟩)]
  · show (if iI 66 ≤ iI ((66 : Nat) : Int) then some (Sum.inr _) else _) = some (Sum.inr (r66 σ u (σ.1 t 0 0)))
    rw [if_pos (by decide)]
    rfl
