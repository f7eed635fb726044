def f_M_no (x1 : Int32) (σ : Sg) : Option (Int32 × Sg) :=
  Option.bind (rd x1 7) (fun j1 => Option.bind (rd x1 7) (fun j3 => some ((iI (-1000000001)) - x1, upI σ 23 0 0 j3 ((σ.1 23 0 0 j1) + (iI 1)))))
theorem ok_M_no (g : Gv) (x1 : Int32) (σ : Sg) (r : Int32 × Sg) (hf : f_M_no x1 σ = some r) : Ok g y_M_no c_M_no 2 (some .int) 0 [.ref (gAd g (6, 0, 0)), .int x1] σ (some (.int r.1), r.2) := by
  unfold f_M_no at hf
  refine Ok.of [(0, .ref (gAd g (6, 0, 0))), (1, .int x1)] (by decide) (Nat.le_of_ble_eq_true rfl) rfl ?_
  intro x hc
  have hc : Zc x g c_M_no R_M 2 (some .int) 0 := hc
  obtain ⟨ρ, hρ⟩ : ∃ ρ : Option Value × Sg, ρ = (some (.int r.1), r.2) := ⟨_, rfl⟩
  rw [← hρ]
  refine z_aload_n hc d_M_no_0 0 rfl ?_
  refine gf_M_19 hc d_M_no_1  ?_
  refine z_iload_n hc d_M_no_4 1 rfl ?_
  refine z_dup2 hc d_M_no_5 rfl rfl ?_
  obtain ⟨j1, hj2, hf⟩ := bd hf
  refine ald_mfound hc d_M_no_6  hj2 ?_
  refine z_iconst (v := (iI 1)) hc d_M_no_7 (by decide) ?_
  refine z_iadd hc d_M_no_8 ?_
  obtain ⟨j3, hj4, hf⟩ := bd hf
  refine ast_mfound hc d_M_no_9  hj4 ?_
  refine z_ldc (v := (iI (-1000000001))) hc co_M_48 d_M_no_10 ?_
  refine z_iload_n hc d_M_no_12 1 rfl ?_
  refine z_isub hc d_M_no_13 ?_
  exact z_iret hc d_M_no_14 (rI hf hρ)
def f_M_in1 (x0 : Int32) (x1 : Int32) (x2 : Int32) (σ : Sg) : Option (Int32 × Sg) :=
  (if x0 < x1 then some ((iI 0), σ) else (if x2 < x0 then some ((iI 0), σ) else some ((iI 1), σ)))
theorem ok_M_in1 (g : Gv) (x0 : Int32) (x1 : Int32) (x2 : Int32) (σ : Sg) (r : Int32 × Sg) (hf : f_M_in1 x0 x1 x2 σ = some r) : Ok g y_M_in1 c_M_in1 3 (some .boolean) 0 [.int x0, .int x1, .int x2] σ (some (.int r.1), r.2) := by
  unfold f_M_in1 at hf
  refine Ok.of [(0, .int x0), (1, .int x1), (2, .int x2)] (by decide) (Nat.le_of_ble_eq_true rfl) rfl ?_
  intro x hc
  have hc : Zc x g c_M_in1 R_M 3 (some .boolean) 0 := hc
  obtain ⟨ρ, hρ⟩ : ∃ ρ : Option Value × Sg, ρ = (some (.int r.1), r.2) := ⟨_, rfl⟩
  rw [← hρ]
  refine z_iload_n hc d_M_in1_0 0 rfl ?_
  refine z_iload_n hc d_M_in1_1 1 rfl ?_
  refine z_icmp_lt (tgt := 14) hc d_M_in1_2 (by decide) (fun hq => ?_) (fun hq => ?_)
  · have hf := ifp hq hf
    refine z_iconst (v := (iI 0)) hc d_M_in1_14 (by decide) ?_
    exact z_zret hc d_M_in1_15 (by decide) (rI hf hρ)
  · have hf := ifn hq hf
    refine z_iload_n hc d_M_in1_5 0 rfl ?_
    refine z_iload_n hc d_M_in1_6 2 rfl ?_
    refine z_icmp_gt (tgt := 14) hc d_M_in1_7 (by decide) (fun hq => ?_) (fun hq => ?_)
    · have hf := ifp hq hf
      refine z_iconst (v := (iI 0)) hc d_M_in1_14 (by decide) ?_
      exact z_zret hc d_M_in1_15 (by decide) (rI hf hρ)
    · have hf := ifn hq hf
      refine z_iconst (v := (iI 1)) hc d_M_in1_10 (by decide) ?_
      refine z_goto (tgt := 15) hc d_M_in1_11 (by decide) ?_
      exact z_zret hc d_M_in1_15 (by decide) (rI hf hρ)
def f_M_less (x0 : Int32) (x1 : Int32) (σ : Sg) : Option (Int32 × Sg) :=
  (if x1 ≤ x0 then some (x1, σ) else some (x0, σ))
theorem ok_M_less (g : Gv) (x0 : Int32) (x1 : Int32) (σ : Sg) (r : Int32 × Sg) (hf : f_M_less x0 x1 σ = some r) : Ok g y_M_less c_M_less 2 (some .int) 0 [.int x0, .int x1] σ (some (.int r.1), r.2) := by
  unfold f_M_less at hf
  refine Ok.of [(0, .int x0), (1, .int x1)] (by decide) (Nat.le_of_ble_eq_true rfl) rfl ?_
  intro x hc
  have hc : Zc x g c_M_less R_M 2 (some .int) 0 := hc
  obtain ⟨ρ, hρ⟩ : ∃ ρ : Option Value × Sg, ρ = (some (.int r.1), r.2) := ⟨_, rfl⟩
  rw [← hρ]
  refine z_iload_n hc d_M_less_0 0 rfl ?_
  refine z_iload_n hc d_M_less_1 1 rfl ?_
  refine z_icmp_ge (tgt := 9) hc d_M_less_2 (by decide) (fun hq => ?_) (fun hq => ?_)
  · have hf := ifp hq hf
    refine z_iload_n hc d_M_less_9 1 rfl ?_
    exact z_iret hc d_M_less_10 (rI hf hρ)
  · have hf := ifn hq hf
    refine z_iload_n hc d_M_less_5 0 rfl ?_
    refine z_goto (tgt := 10) hc d_M_less_6 (by decide) ?_
    exact z_iret hc d_M_less_10 (rI hf hρ)
def b_M_bits_4 (x1 : Int32) (x2 : Int32) (σ : Sg) : Option ((Int32 × Int32 × Sg) ⊕ (Int32 × Sg)) :=
  (if x2 = (iI 0) then some (.inr (x1, σ)) else some (.inl (x1 + (iI 1), x2 &&& (x2 - (iI 1)), σ)))
theorem sb_M_bits_4 {x : Cx} {g : Gv} {ρ : Option Value × Sg} (hc : Zc x g c_M_bits R_M 3 (some .int) 0) (x1 : Int32) (x2 : Int32) (σ : Sg) (r : (Int32 × Int32 × Sg) ⊕ (Int32 × Sg)) (hf : b_M_bits_4 x1 x2 σ = some r) (hi : ∀ a', r = .inl a' → Z x g 3 ρ 4 [(1, .int a'.1), (2, .int a'.2.1)] [] a'.2.2) (he0 : ∀ b, r = .inr b → Z x g 3 ρ 20 [(1, .int b.1)] [] b.2) : Z x g 3 ρ 4 [(1, .int x1), (2, .int x2)] [] σ := by
  unfold b_M_bits_4 at hf
  refine z_iload_n hc d_M_bits_4 1 rfl ?_
  refine z_if_eq (tgt := 20) hc d_M_bits_5 (by decide) (fun hq => ?_) (fun hq => ?_)
  · have hf := ifp hq hf
    refine z_sub [0] (L' := [(1, .int x1)]) rfl ?_
    exact he0 (x1, σ) (Option.some.inj hf).symm
  · have hf := ifn hq hf
    refine z_iinc (v := x1 + (iI 1)) (L' := [(1, .int (x1 + (iI 1))), (2, .int x2)]) hc d_M_bits_8 0 rfl rfl (by decide) rfl ?_
    refine z_iload_n hc d_M_bits_11 1 rfl ?_
    refine z_iload_n hc d_M_bits_12 1 rfl ?_
    refine z_iconst (v := (iI 1)) hc d_M_bits_13 (by decide) ?_
    refine z_isub hc d_M_bits_14 ?_
    refine z_iand hc d_M_bits_15 ?_
    refine z_istore_n (L' := [(2, .int (x2 &&& (x2 - (iI 1)))), (1, .int (x1 + (iI 1)))]) hc d_M_bits_16 (by decide) rfl ?_
    refine z_goto (tgt := 4) hc d_M_bits_17 (by decide) ?_
    refine z_sub [1, 0] (L' := [(1, .int (x1 + (iI 1))), (2, .int (x2 &&& (x2 - (iI 1))))]) rfl ?_
    exact hi (x1 + (iI 1), x2 &&& (x2 - (iI 1)), σ) (Option.some.inj hf).symm
def f_M_bits (x0 : Int32) (σ : Sg) : Option (Int32 × Sg) :=
  Option.bind (lp (fun a => b_M_bits_4  a.1 a.2.1 a.2.2) FU ((iI 0), x0, σ)) (fun b4 => some (b4.1, b4.2))
theorem ok_M_bits (g : Gv) (x0 : Int32) (σ : Sg) (r : Int32 × Sg) (hf : f_M_bits x0 σ = some r) : Ok g y_M_bits c_M_bits 3 (some .int) 0 [.int x0] σ (some (.int r.1), r.2) := by
  unfold f_M_bits at hf
  refine Ok.of [(0, .int x0)] (by decide) (Nat.le_of_ble_eq_true rfl) rfl ?_
  intro x hc
  have hc : Zc x g c_M_bits R_M 3 (some .int) 0 := hc
  obtain ⟨ρ, hρ⟩ : ∃ ρ : Option Value × Sg, ρ = (some (.int r.1), r.2) := ⟨_, rfl⟩
  rw [← hρ]
  refine z_iconst (v := (iI 0)) hc d_M_bits_0 (by decide) ?_
  refine z_istore_n (L' := [(1, .int (iI 0)), (0, .int x0)]) hc d_M_bits_1 (by decide) rfl ?_
  refine z_iload_n hc d_M_bits_2 1 rfl ?_
  refine z_istore_n (L' := [(2, .int x0), (1, .int (iI 0)), (0, .int x0)]) hc d_M_bits_3 (by decide) rfl ?_
  refine z_sub [1, 0] (L' := [(1, .int (iI 0)), (2, .int x0)]) rfl ?_
  obtain ⟨⟨y2, σ3⟩, hl5, hf⟩ := bd hf
  try dsimp only at hf
  refine lp_walk (α := (Int32 × Int32 × Sg)) (β := (Int32 × Sg)) (body := (fun a : (Int32 × Int32 × Sg) => b_M_bits_4  a.1 a.2.1 a.2.2)) (In := (fun a : (Int32 × Int32 × Sg) => Z x g 3 ρ 4 [(1, .int a.1), (2, .int a.2.1)] [] a.2.2)) (Out := (fun b => Z x g 3 ρ 20 [(1, .int b.1)] [] b.2)) (fun a r hb hi ho => sb_M_bits_4 hc   a.1 a.2.1 a.2.2 r hb hi (fun b e => ho _ e)) FU ((iI 0), x0, σ) _ hl5 ?_
  dsimp only
  refine z_iload_n hc d_M_bits_20 0 rfl ?_
  exact z_iret hc d_M_bits_21 (rI hf hρ)
theorem vl_M_49 : SL R_M 49 y_M_in1 c_M_in1 3 (some .boolean) 3 := ⟨tb4 192 (by decide +kernel) (by decide +kernel), tb4 193 (by decide +kernel) (by decide +kernel), tb1 12 (by decide +kernel) (by decide +kernel), k_M_in1, by decide, by decide, by decide +kernel, by decide⟩
theorem cz_M_49 {x : Cx} {g : Gv} {cc : ByteArray} {nL d pc : Nat} {ret : Option FieldType} {ρ : Option Value × Sg} {L : List (Nat × Value)} {st : List Value} {σ : Sg} (hc : Zc x g cc R_M nL ret d) (hd : decode cc pc = .ok (.invokestatic 49, 3)) (hdd : 1 ≤ d) {x0 : Int32} {x1 : Int32} {x2 : Int32} {v : Int32} {σ1 : Sg} (hf : f_M_in1 x0 x1 x2 σ = some (v, σ1)) (hst : (st.map (fun v => v.category)).sum ≤ 8) (k : Z x g nL ρ (pc + 3) L (.int v :: st) σ1) : Z x g nL ρ pc L (.int x2 :: .int x1 :: .int x0 :: st) σ := z_callS (As := [.int x0, .int x1, .int x2]) hc hd vl_M_49 hdd (ok_M_in1 g x0 x1 x2 σ (v, σ1) hf) rfl rfl hst rfl k
def f_M_isCarpet (x1 : Int32) (σ : Sg) : Option (Int32 × Sg) :=
  Option.bind (rd (iI 2) 66) (fun j1 => b2 (f_M_in1 x1 (iI 0) ((σ.1 20 0 0 j1) - (iI 1)) σ) (fun v3 σ4 => Option.bind (bo v3) (fun r6 => some (r6, σ4))))
theorem ok_M_isCarpet (g : Gv) (x1 : Int32) (σ : Sg) (r : Int32 × Sg) (hf : f_M_isCarpet x1 σ = some r) : Ok g y_M_isCarpet c_M_isCarpet 2 (some .boolean) 1 [.ref (gAd g (6, 0, 0)), .int x1] σ (some (.int r.1), r.2) := by
  unfold f_M_isCarpet at hf
  refine Ok.of [(0, .ref (gAd g (6, 0, 0))), (1, .int x1)] (by decide) (Nat.le_of_ble_eq_true rfl) rfl ?_
  intro x hc
  have hc : Zc x g c_M_isCarpet R_M 2 (some .boolean) 1 := hc
  obtain ⟨ρ, hρ⟩ : ∃ ρ : Option Value × Sg, ρ = (some (.int r.1), r.2) := ⟨_, rfl⟩
  rw [← hρ]
  refine z_iload_n hc d_M_isCarpet_0 1 rfl ?_
  refine z_iconst (v := (iI 0)) hc d_M_isCarpet_1 (by decide) ?_
  refine z_aload_n hc d_M_isCarpet_2 0 rfl ?_
  refine gf_M_9 hc d_M_isCarpet_3  ?_
  refine z_iconst (v := (iI 2)) hc d_M_isCarpet_6 (by decide) ?_
  obtain ⟨j1, hj2, hf⟩ := bd hf
  refine ald_ms hc d_M_isCarpet_7  hj2 ?_
  refine z_iconst (v := (iI 1)) hc d_M_isCarpet_8 (by decide) ?_
  refine z_isub hc d_M_isCarpet_9 ?_
  obtain ⟨v3, σ4, h5, hf⟩ := bd2 hf
  refine cz_M_49 hc d_M_isCarpet_10 (by decide)  h5 (Nat.le_of_ble_eq_true rfl) ?_
  obtain ⟨r6, hb1, hf⟩ := bd hf
  exact z_bret hc d_M_isCarpet_13 hb1 hf hρ
def f_M_isYard (x0 : Int32) (σ : Sg) : Option (Int32 × Sg) :=
  b2 (f_M_in1 x0 (iI 0) (iI 39) σ) (fun v1 σ2 => Option.bind (bo v1) (fun r4 => some (r4, σ2)))
theorem ok_M_isYard (g : Gv) (x0 : Int32) (σ : Sg) (r : Int32 × Sg) (hf : f_M_isYard x0 σ = some r) : Ok g y_M_isYard c_M_isYard 1 (some .boolean) 1 [.int x0] σ (some (.int r.1), r.2) := by
  unfold f_M_isYard at hf
  refine Ok.of [(0, .int x0)] (by decide) (Nat.le_of_ble_eq_true rfl) rfl ?_
  intro x hc
  have hc : Zc x g c_M_isYard R_M 1 (some .boolean) 1 := hc
  obtain ⟨ρ, hρ⟩ : ∃ ρ : Option Value × Sg, ρ = (some (.int r.1), r.2) := ⟨_, rfl⟩
  rw [← hρ]
  refine z_iload_n hc d_M_isYard_0 0 rfl ?_
  refine z_iconst (v := (iI 0)) hc d_M_isYard_1 (by decide) ?_
  refine z_bipush (v := (iI 39)) hc d_M_isYard_2 (by decide) ?_
  obtain ⟨v1, σ2, h3, hf⟩ := bd2 hf
  refine cz_M_49 hc d_M_isYard_4 (by decide)  h3 (Nat.le_of_ble_eq_true rfl) ?_
  obtain ⟨r4, hb1, hf⟩ := bd hf
  exact z_bret hc d_M_isYard_7 hb1 hf hρ
def f_M_get (x1 : Int32) (x2 : Int32) (σ : Sg) : Option (Int32 × Sg) :=
  Option.bind (rd (((iI 10) + ((iI 7) * x1)) + x2) 66) (fun j1 => some (σ.1 20 0 0 j1, σ))
theorem ok_M_get (g : Gv) (x1 : Int32) (x2 : Int32) (σ : Sg) (r : Int32 × Sg) (hf : f_M_get x1 x2 σ = some r) : Ok g y_M_get c_M_get 3 (some .int) 0 [.ref (gAd g (6, 0, 0)), .int x1, .int x2] σ (some (.int r.1), r.2) := by
  unfold f_M_get at hf
  refine Ok.of [(0, .ref (gAd g (6, 0, 0))), (1, .int x1), (2, .int x2)] (by decide) (Nat.le_of_ble_eq_true rfl) rfl ?_
  intro x hc
  have hc : Zc x g c_M_get R_M 3 (some .int) 0 := hc
  obtain ⟨ρ, hρ⟩ : ∃ ρ : Option Value × Sg, ρ = (some (.int r.1), r.2) := ⟨_, rfl⟩
  rw [← hρ]
  refine z_aload_n hc d_M_get_0 0 rfl ?_
  refine gf_M_9 hc d_M_get_1  ?_
  refine z_bipush (v := (iI 10)) hc d_M_get_4 (by decide) ?_
  refine z_bipush (v := (iI 7)) hc d_M_get_6 (by decide) ?_
  refine z_iload_n hc d_M_get_8 1 rfl ?_
  refine z_imul hc d_M_get_9 ?_
  refine z_iadd hc d_M_get_10 ?_
  refine z_iload_n hc d_M_get_11 2 rfl ?_
  refine z_iadd hc d_M_get_12 ?_
  obtain ⟨j1, hj2, hf⟩ := bd hf
  refine ald_ms hc d_M_get_13  hj2 ?_
  exact z_iret hc d_M_get_14 (rI hf hρ)
def f_M_puts (x1 : Int32) (x2 : Int32) (x3 : Int32) (σ : Sg) : Option (Unit × Sg) :=
  Option.bind (rd (((iI 10) + ((iI 7) * x1)) + x2) 66) (fun j1 => some ((), upI σ 20 0 0 j1 x3))
theorem ok_M_puts (g : Gv) (x1 : Int32) (x2 : Int32) (x3 : Int32) (σ : Sg) (r : Unit × Sg) (hf : f_M_puts x1 x2 x3 σ = some r) : Ok g y_M_puts c_M_puts 4 none 0 [.ref (gAd g (6, 0, 0)), .int x1, .int x2, .int x3] σ (none, r.2) := by
  unfold f_M_puts at hf
  refine Ok.of [(0, .ref (gAd g (6, 0, 0))), (1, .int x1), (2, .int x2), (3, .int x3)] (by decide) (Nat.le_of_ble_eq_true rfl) rfl ?_
  intro x hc
  have hc : Zc x g c_M_puts R_M 4 none 0 := hc
  obtain ⟨ρ, hρ⟩ : ∃ ρ : Option Value × Sg, ρ = (none, r.2) := ⟨_, rfl⟩
  rw [← hρ]
  refine z_aload_n hc d_M_puts_0 0 rfl ?_
  refine gf_M_9 hc d_M_puts_1  ?_
  refine z_bipush (v := (iI 10)) hc d_M_puts_4 (by decide) ?_
  refine z_bipush (v := (iI 7)) hc d_M_puts_6 (by decide) ?_
  refine z_iload_n hc d_M_puts_8 1 rfl ?_
  refine z_imul hc d_M_puts_9 ?_
  refine z_iadd hc d_M_puts_10 ?_
  refine z_iload_n hc d_M_puts_11 2 rfl ?_
  refine z_iadd hc d_M_puts_12 ?_
  refine z_iload_n hc d_M_puts_13 3 rfl ?_
  obtain ⟨j1, hj2, hf⟩ := bd hf
  refine ast_ms hc d_M_puts_14  hj2 ?_
  exact z_vret hc d_M_puts_15 (rV hf hρ)
def b_M_setsAside_2 (x1 : Int32) (σ : Sg) : Option ((Int32 × Sg) ⊕ (Sg)) :=
  (if (iI 66) ≤ x1 then some (.inr σ) else Option.bind (rd x1 66) (fun j1 => Option.bind (rd x1 66) (fun j3 => some (.inl (x1 + (iI 1), upI σ 22 0 0 j3 (σ.1 20 0 0 j1))))))
theorem sb_M_setsAside_2 {x : Cx} {g : Gv} {ρ : Option Value × Sg} (hc : Zc x g c_M_setsAside R_M 2 none 0) (x1 : Int32) (σ : Sg) (r : (Int32 × Sg) ⊕ (Sg)) (hf : b_M_setsAside_2 x1 σ = some r) (hi : ∀ a', r = .inl a' → Z x g 2 ρ 2 [(0, .ref (gAd g (6, 0, 0))), (1, .int a'.1)] [] a'.2) (he0 : ∀ b, r = .inr b → Z x g 2 ρ 26 [] [] b) : Z x g 2 ρ 2 [(0, .ref (gAd g (6, 0, 0))), (1, .int x1)] [] σ := by
  unfold b_M_setsAside_2 at hf
  refine z_iload_n hc d_M_setsAside_2 1 rfl ?_
  refine z_bipush (v := (iI 66)) hc d_M_setsAside_3 (by decide) ?_
  refine z_icmp_ge (tgt := 26) hc d_M_setsAside_5 (by decide) (fun hq => ?_) (fun hq => ?_)
  · have hf := ifp hq hf
    refine z_sub [] (L' := []) rfl ?_
    exact he0 σ (Option.some.inj hf).symm
  · have hf := ifn hq hf
    refine z_aload_n hc d_M_setsAside_8 0 rfl ?_
    refine gf_M_16 hc d_M_setsAside_9  ?_
    refine z_iload_n hc d_M_setsAside_12 1 rfl ?_
    refine z_aload_n hc d_M_setsAside_13 0 rfl ?_
    refine gf_M_9 hc d_M_setsAside_14  ?_
    refine z_iload_n hc d_M_setsAside_17 1 rfl ?_
    obtain ⟨j1, hj2, hf⟩ := bd hf
    refine ald_ms hc d_M_setsAside_18  hj2 ?_
    obtain ⟨j3, hj4, hf⟩ := bd hf
    refine ast_maside hc d_M_setsAside_19  hj4 ?_
    refine z_iinc (v := x1 + (iI 1)) (L' := [(1, .int (x1 + (iI 1))), (0, .ref (gAd g (6, 0, 0)))]) hc d_M_setsAside_20 1 rfl rfl (by decide) rfl ?_
    refine z_goto (tgt := 2) hc d_M_setsAside_23 (by decide) ?_
    refine z_sub [1, 0] (L' := [(0, .ref (gAd g (6, 0, 0))), (1, .int (x1 + (iI 1)))]) rfl ?_
    exact hi (x1 + (iI 1), upI σ 22 0 0 j3 (σ.1 20 0 0 j1)) (Option.some.inj hf).symm
def f_M_setsAside (σ : Sg) : Option (Unit × Sg) :=
  Option.bind (lp (fun a => b_M_setsAside_2  a.1 a.2) FU ((iI 0), σ)) (fun b7 => some ((), b7))
theorem ok_M_setsAside (g : Gv) (σ : Sg) (r : Unit × Sg) (hf : f_M_setsAside σ = some r) : Ok g y_M_setsAside c_M_setsAside 2 none 0 [.ref (gAd g (6, 0, 0))] σ (none, r.2) := by
  unfold f_M_setsAside at hf
  refine Ok.of [(0, .ref (gAd g (6, 0, 0)))] (by decide) (Nat.le_of_ble_eq_true rfl) rfl ?_
  intro x hc
  have hc : Zc x g c_M_setsAside R_M 2 none 0 := hc
  obtain ⟨ρ, hρ⟩ : ∃ ρ : Option Value × Sg, ρ = (none, r.2) := ⟨_, rfl⟩
  rw [← hρ]
  refine z_iconst (v := (iI 0)) hc d_M_setsAside_0 (by decide) ?_
  refine z_istore_n (L' := [(1, .int (iI 0)), (0, .ref (gAd g (6, 0, 0)))]) hc d_M_setsAside_1 (by decide) rfl ?_
  refine z_sub [1, 0] (L' := [(0, .ref (gAd g (6, 0, 0))), (1, .int (iI 0))]) rfl ?_
  obtain ⟨σ6, hl8, hf⟩ := bd hf
  try dsimp only at hf
  refine lp_walk (α := (Int32 × Sg)) (β := (Sg)) (body := (fun a : (Int32 × Sg) => b_M_setsAside_2  a.1 a.2)) (In := (fun a : (Int32 × Sg) => Z x g 2 ρ 2 [(0, .ref (gAd g (6, 0, 0))), (1, .int a.1)] [] a.2)) (Out := (fun b => Z x g 2 ρ 26 [] [] b)) (fun a r hb hi ho => sb_M_setsAside_2 hc   a.1 a.2 r hb hi (fun b e => ho _ e)) FU ((iI 0), σ) _ hl8 ?_
  exact z_vret hc d_M_setsAside_26 (rV hf hρ)
def b_M_laysBack_2 (x1 : Int32) (σ : Sg) : Option ((Int32 × Sg) ⊕ (Sg)) :=
  (if (iI 66) ≤ x1 then some (.inr σ) else Option.bind (rd x1 66) (fun j1 => Option.bind (rd x1 66) (fun j3 => some (.inl (x1 + (iI 1), upI σ 20 0 0 j3 (σ.1 22 0 0 j1))))))
theorem sb_M_laysBack_2 {x : Cx} {g : Gv} {ρ : Option Value × Sg} (hc : Zc x g c_M_laysBack R_M 2 none 0) (x1 : Int32) (σ : Sg) (r : (Int32 × Sg) ⊕ (Sg)) (hf : b_M_laysBack_2 x1 σ = some r) (hi : ∀ a', r = .inl a' → Z x g 2 ρ 2 [(0, .ref (gAd g (6, 0, 0))), (1, .int a'.1)] [] a'.2) (he0 : ∀ b, r = .inr b → Z x g 2 ρ 26 [] [] b) : Z x g 2 ρ 2 [(0, .ref (gAd g (6, 0, 0))), (1, .int x1)] [] σ := by
  unfold b_M_laysBack_2 at hf
  refine z_iload_n hc d_M_laysBack_2 1 rfl ?_
  refine z_bipush (v := (iI 66)) hc d_M_laysBack_3 (by decide) ?_
  refine z_icmp_ge (tgt := 26) hc d_M_laysBack_5 (by decide) (fun hq => ?_) (fun hq => ?_)
  · have hf := ifp hq hf
    refine z_sub [] (L' := []) rfl ?_
    exact he0 σ (Option.some.inj hf).symm
  · have hf := ifn hq hf
    refine z_aload_n hc d_M_laysBack_8 0 rfl ?_
    refine gf_M_9 hc d_M_laysBack_9  ?_
    refine z_iload_n hc d_M_laysBack_12 1 rfl ?_
    refine z_aload_n hc d_M_laysBack_13 0 rfl ?_
    refine gf_M_16 hc d_M_laysBack_14  ?_
    refine z_iload_n hc d_M_laysBack_17 1 rfl ?_
    obtain ⟨j1, hj2, hf⟩ := bd hf
    refine ald_maside hc d_M_laysBack_18  hj2 ?_
    obtain ⟨j3, hj4, hf⟩ := bd hf
    refine ast_ms hc d_M_laysBack_19  hj4 ?_
    refine z_iinc (v := x1 + (iI 1)) (L' := [(1, .int (x1 + (iI 1))), (0, .ref (gAd g (6, 0, 0)))]) hc d_M_laysBack_20 1 rfl rfl (by decide) rfl ?_
    refine z_goto (tgt := 2) hc d_M_laysBack_23 (by decide) ?_
    refine z_sub [1, 0] (L' := [(0, .ref (gAd g (6, 0, 0))), (1, .int (x1 + (iI 1)))]) rfl ?_
    exact hi (x1 + (iI 1), upI σ 20 0 0 j3 (σ.1 22 0 0 j1)) (Option.some.inj hf).symm
def f_M_laysBack (σ : Sg) : Option (Unit × Sg) :=
  Option.bind (lp (fun a => b_M_laysBack_2  a.1 a.2) FU ((iI 0), σ)) (fun b7 => some ((), b7))
theorem ok_M_laysBack (g : Gv) (σ : Sg) (r : Unit × Sg) (hf : f_M_laysBack σ = some r) : Ok g y_M_laysBack c_M_laysBack 2 none 0 [.ref (gAd g (6, 0, 0))] σ (none, r.2) := by
  unfold f_M_laysBack at hf
  refine Ok.of [(0, .ref (gAd g (6, 0, 0)))] (by decide) (Nat.le_of_ble_eq_true rfl) rfl ?_
  intro x hc
  have hc : Zc x g c_M_laysBack R_M 2 none 0 := hc
  obtain ⟨ρ, hρ⟩ : ∃ ρ : Option Value × Sg, ρ = (none, r.2) := ⟨_, rfl⟩
  rw [← hρ]
  refine z_iconst (v := (iI 0)) hc d_M_laysBack_0 (by decide) ?_
  refine z_istore_n (L' := [(1, .int (iI 0)), (0, .ref (gAd g (6, 0, 0)))]) hc d_M_laysBack_1 (by decide) rfl ?_
  refine z_sub [1, 0] (L' := [(0, .ref (gAd g (6, 0, 0))), (1, .int (iI 0))]) rfl ?_
  obtain ⟨σ6, hl8, hf⟩ := bd hf
  try dsimp only at hf
  refine lp_walk (α := (Int32 × Sg)) (β := (Sg)) (body := (fun a : (Int32 × Sg) => b_M_laysBack_2  a.1 a.2)) (In := (fun a : (Int32 × Sg) => Z x g 2 ρ 2 [(0, .ref (gAd g (6, 0, 0))), (1, .int a.1)] [] a.2)) (Out := (fun b => Z x g 2 ρ 26 [] [] b)) (fun a r hb hi ho => sb_M_laysBack_2 hc   a.1 a.2 r hb hi (fun b e => ho _ e)) FU ((iI 0), σ) _ hl8 ?_
  exact z_vret hc d_M_laysBack_26 (rV hf hρ)
def f_M_rains (σ : Sg) : Option (Int32 × Sg) :=
  Option.bind (rd (iI 0) 66) (fun j1 => Option.bind (rd ((iI 3) + ((σ.1 20 0 0 j1) - (σ.1 20 0 0 j1) / (iI 7) * (iI 7))) 66) (fun j3 => (if (σ.1 20 0 0 j3) = (iI 1) then some ((iI 1), σ) else some ((iI 0), σ))))
theorem ok_M_rains (g : Gv) (σ : Sg) (r : Int32 × Sg) (hf : f_M_rains σ = some r) : Ok g y_M_rains c_M_rains 1 (some .boolean) 0 [.ref (gAd g (6, 0, 0))] σ (some (.int r.1), r.2) := by
  unfold f_M_rains at hf
  refine Ok.of [(0, .ref (gAd g (6, 0, 0)))] (by decide) (Nat.le_of_ble_eq_true rfl) rfl ?_
  intro x hc
  have hc : Zc x g c_M_rains R_M 1 (some .boolean) 0 := hc
  obtain ⟨ρ, hρ⟩ : ∃ ρ : Option Value × Sg, ρ = (some (.int r.1), r.2) := ⟨_, rfl⟩
  rw [← hρ]
  refine z_aload_n hc d_M_rains_0 0 rfl ?_
  refine gf_M_9 hc d_M_rains_1  ?_
  refine z_iconst (v := (iI 3)) hc d_M_rains_4 (by decide) ?_
  refine z_aload_n hc d_M_rains_5 0 rfl ?_
  refine gf_M_9 hc d_M_rains_6  ?_
  refine z_iconst (v := (iI 0)) hc d_M_rains_9 (by decide) ?_
  obtain ⟨j1, hj2, hf⟩ := bd hf
  refine ald_ms hc d_M_rains_10  hj2 ?_
  refine z_bipush (v := (iI 7)) hc d_M_rains_11 (by decide) ?_
  refine z_irem hc d_M_rains_13 (by decide) ?_
  refine z_iadd hc d_M_rains_14 ?_
  obtain ⟨j3, hj4, hf⟩ := bd hf
  refine ald_ms hc d_M_rains_15  hj4 ?_
  refine z_iconst (v := (iI 1)) hc d_M_rains_16 (by decide) ?_
  refine z_icmp_ne (tgt := 24) hc d_M_rains_17 (by decide) (fun hq => ?_) (fun hq => ?_)
  · have hf := ifn hq hf
    refine z_iconst (v := (iI 0)) hc d_M_rains_24 (by decide) ?_
    exact z_zret hc d_M_rains_25 (by decide) (rI hf hρ)
  · have hf := ifp hq hf
    refine z_iconst (v := (iI 1)) hc d_M_rains_20 (by decide) ?_
    refine z_goto (tgt := 25) hc d_M_rains_21 (by decide) ?_
    exact z_zret hc d_M_rains_25 (by decide) (rI hf hρ)
theorem vl_M_53 : VL R_M 53 y_M_get c_M_get 3 (some .int) 2 := ⟨tb4 211 (by decide +kernel) (by decide +kernel), tb4 213 (by decide +kernel) (by decide +kernel), tbp 12 (by decide +kernel), tb1 12 (by decide +kernel) (by decide +kernel), k_M_get, by decide, by decide, by decide +kernel, by decide⟩
theorem cz_M_53 {x : Cx} {g : Gv} {cc : ByteArray} {nL d pc : Nat} {ret : Option FieldType} {ρ : Option Value × Sg} {L : List (Nat × Value)} {st : List Value} {σ : Sg} (hc : Zc x g cc R_M nL ret d) (hd : decode cc pc = .ok (.invokevirtual 53, 3)) (hdd : 1 ≤ d) {x1 : Int32} {x2 : Int32} {v : Int32} {σ1 : Sg} (hf : f_M_get x1 x2 σ = some (v, σ1)) (hst : (st.map (fun v => v.category)).sum ≤ 8) (k : Z x g nL ρ (pc + 3) L (.int v :: st) σ1) : Z x g nL ρ pc L (.int x2 :: .int x1 :: .ref (gAd g (6, 0, 0)) :: st) σ := z_callV (ci := 11) (As := [.int x1, .int x2]) hc hd vl_M_53 hdd (6, 0, 0) (dm_M) rfl rfl (ok_M_get g x1 x2 σ (v, σ1) hf) rfl rfl hst rfl k
def f_M_reachOf (x1 : Int32) (σ : Sg) : Option (Int32 × Sg) :=
  b2 (f_M_get x1 (iI 2) σ) (fun v1 σ2 => b2 (f_M_get x1 (iI 0) σ2) (fun v4 σ5 => (if v4 = (iI 1) then some ((iI 2) * v1, σ5) else (if v4 = (iI 2) then some (v1, σ5) else (if v4 = (iI 3) then some ((iI 2), σ5) else (if v4 = (iI 4) then (if (iI 2) ≤ v1 then some (((iI 2) * v1) - (iI 3), σ5) else some ((iI 1), σ5)) else (if v4 = (iI 5) then b2 (f_M_get x1 (iI 3) σ5) (fun v7 σ8 => (if v7 < (iI 20) then (if (iI 2) ≤ v1 then some (v1 / (iI 2), σ8) else some ((iI 1), σ8)) else some (v1, σ8))) else some (v1, σ5))))))))
theorem ok_M_reachOf (g : Gv) (x1 : Int32) (σ : Sg) (r : Int32 × Sg) (hf : f_M_reachOf x1 σ = some r) : Ok g y_M_reachOf c_M_reachOf 3 (some .int) 1 [.ref (gAd g (6, 0, 0)), .int x1] σ (some (.int r.1), r.2) := by
  unfold f_M_reachOf at hf
  refine Ok.of [(0, .ref (gAd g (6, 0, 0))), (1, .int x1)] (by decide) (Nat.le_of_ble_eq_true rfl) rfl ?_
  intro x hc
  have hc : Zc x g c_M_reachOf R_M 3 (some .int) 1 := hc
  obtain ⟨ρ, hρ⟩ : ∃ ρ : Option Value × Sg, ρ = (some (.int r.1), r.2) := ⟨_, rfl⟩
  rw [← hρ]
  refine z_aload_n hc d_M_reachOf_0 0 rfl ?_
  refine z_iload_n hc d_M_reachOf_1 1 rfl ?_
  refine z_iconst (v := (iI 2)) hc d_M_reachOf_2 (by decide) ?_
  obtain ⟨v1, σ2, h3, hf⟩ := bd2 hf
  refine cz_M_53 hc d_M_reachOf_3 (by decide)  h3 (Nat.le_of_ble_eq_true rfl) ?_
  refine z_istore_n (L' := [(2, .int v1), (0, .ref (gAd g (6, 0, 0))), (1, .int x1)]) hc d_M_reachOf_6 (by decide) rfl ?_
  refine z_aload_n hc d_M_reachOf_7 1 rfl ?_
  refine z_iload_n hc d_M_reachOf_8 2 rfl ?_
  refine z_iconst (v := (iI 0)) hc d_M_reachOf_9 (by decide) ?_
  obtain ⟨v4, σ5, h6, hf⟩ := bd2 hf
  refine cz_M_53 hc d_M_reachOf_10 (by decide)  h6 (Nat.le_of_ble_eq_true rfl) ?_
  by_cases hq0 : v4 = (iI 1)
  · have hf := ifp hq0 hf
    refine z_tab (tgt := 48) (off := 35) (iI 1) hc d_M_reachOf_13 hq0 (by decide) (by decide) (by decide) (by decide) ?_
    refine z_iconst (v := (iI 2)) hc d_M_reachOf_48 (by decide) ?_
    refine z_iload_n hc d_M_reachOf_49 0 rfl ?_
    refine z_imul hc d_M_reachOf_50 ?_
    exact z_iret hc d_M_reachOf_51 (rI hf hρ)
  have hf := ifn hq0 hf
  by_cases hq1 : v4 = (iI 2)
  · have hf := ifp hq1 hf
    refine z_tab (tgt := 97) (off := 84) (iI 2) hc d_M_reachOf_13 hq1 (by decide) (by decide) (by decide) (by decide) ?_
    refine z_iload_n hc d_M_reachOf_97 0 rfl ?_
    exact z_iret hc d_M_reachOf_98 (rI hf hρ)
  have hf := ifn hq1 hf
  by_cases hq2 : v4 = (iI 3)
  · have hf := ifp hq2 hf
    refine z_tab (tgt := 52) (off := 39) (iI 3) hc d_M_reachOf_13 hq2 (by decide) (by decide) (by decide) (by decide) ?_
    refine z_iconst (v := (iI 2)) hc d_M_reachOf_52 (by decide) ?_
    exact z_iret hc d_M_reachOf_53 (rI hf hρ)
  have hf := ifn hq2 hf
  by_cases hq3 : v4 = (iI 4)
  · have hf := ifp hq3 hf
    refine z_tab (tgt := 54) (off := 41) (iI 4) hc d_M_reachOf_13 hq3 (by decide) (by decide) (by decide) (by decide) ?_
    refine z_iload_n hc d_M_reachOf_54 0 rfl ?_
    refine z_iconst (v := (iI 2)) hc d_M_reachOf_55 (by decide) ?_
    refine z_icmp_ge (tgt := 63) hc d_M_reachOf_56 (by decide) (fun hq => ?_) (fun hq => ?_)
    · have hf := ifp hq hf
      refine z_iconst (v := (iI 2)) hc d_M_reachOf_63 (by decide) ?_
      refine z_iload_n hc d_M_reachOf_64 0 rfl ?_
      refine z_imul hc d_M_reachOf_65 ?_
      refine z_iconst (v := (iI 3)) hc d_M_reachOf_66 (by decide) ?_
      refine z_isub hc d_M_reachOf_67 ?_
      exact z_iret hc d_M_reachOf_68 (rI hf hρ)
    · have hf := ifn hq hf
      refine z_iconst (v := (iI 1)) hc d_M_reachOf_59 (by decide) ?_
      refine z_goto (tgt := 68) hc d_M_reachOf_60 (by decide) ?_
      exact z_iret hc d_M_reachOf_68 (rI hf hρ)
  have hf := ifn hq3 hf
  by_cases hq4 : v4 = (iI 5)
  · have hf := ifp hq4 hf
    refine z_tab (tgt := 69) (off := 56) (iI 5) hc d_M_reachOf_13 hq4 (by decide) (by decide) (by decide) (by decide) ?_
    refine z_aload_n hc d_M_reachOf_69 1 rfl ?_
    refine z_iload_n hc d_M_reachOf_70 2 rfl ?_
    refine z_iconst (v := (iI 3)) hc d_M_reachOf_71 (by decide) ?_
    obtain ⟨v7, σ8, h9, hf⟩ := bd2 hf
    refine cz_M_53 hc d_M_reachOf_72 (by decide)  h9 (Nat.le_of_ble_eq_true rfl) ?_
    refine z_bipush (v := (iI 20)) hc d_M_reachOf_75 (by decide) ?_
    refine z_icmp_lt (tgt := 84) hc d_M_reachOf_77 (by decide) (fun hq => ?_) (fun hq => ?_)
    · have hf := ifp hq hf
      refine z_iload_n hc d_M_reachOf_84 0 rfl ?_
      refine z_iconst (v := (iI 2)) hc d_M_reachOf_85 (by decide) ?_
      refine z_icmp_ge (tgt := 93) hc d_M_reachOf_86 (by decide) (fun hq => ?_) (fun hq => ?_)
      · have hf := ifp hq hf
        refine z_iload_n hc d_M_reachOf_93 0 rfl ?_
        refine z_iconst (v := (iI 2)) hc d_M_reachOf_94 (by decide) ?_
        refine z_idiv hc d_M_reachOf_95 (by decide) ?_
        exact z_iret hc d_M_reachOf_96 (rI hf hρ)
      · have hf := ifn hq hf
        refine z_iconst (v := (iI 1)) hc d_M_reachOf_89 (by decide) ?_
        refine z_goto (tgt := 96) hc d_M_reachOf_90 (by decide) ?_
        exact z_iret hc d_M_reachOf_96 (rI hf hρ)
    · have hf := ifn hq hf
      refine z_iload_n hc d_M_reachOf_80 0 rfl ?_
      refine z_goto (tgt := 96) hc d_M_reachOf_81 (by decide) ?_
      exact z_iret hc d_M_reachOf_96 (rI hf hρ)
  have hf := ifn hq4 hf
  refine z_tabD (tgt := 97) 5 (by decide) hc d_M_reachOf_13 (fun j hj => by match j, hj with | 0, _ => exact hq0 | 1, _ => exact hq1 | 2, _ => exact hq2 | 3, _ => exact hq3 | 4, _ => exact hq4) (by decide) ?_
  refine z_iload_n hc d_M_reachOf_97 0 rfl ?_
  exact z_iret hc d_M_reachOf_98 (rI hf hρ)
theorem vl_M_57 : VL R_M 57 y_M_rains c_M_rains 1 (some .boolean) 0 := ⟨tb5 7 (by decide +kernel) (by decide +kernel), tb5 9 (by decide +kernel) (by decide +kernel), tbp 17 (by decide +kernel), tb1 12 (by decide +kernel) (by decide +kernel), k_M_rains, by decide, by decide, by decide +kernel, by decide⟩
theorem cz_M_57 {x : Cx} {g : Gv} {cc : ByteArray} {nL d pc : Nat} {ret : Option FieldType} {ρ : Option Value × Sg} {L : List (Nat × Value)} {st : List Value} {σ : Sg} (hc : Zc x g cc R_M nL ret d) (hd : decode cc pc = .ok (.invokevirtual 57, 3)) (hdd : 1 ≤ d) {v : Int32} {σ1 : Sg} (hf : f_M_rains σ = some (v, σ1)) (hst : (st.map (fun v => v.category)).sum ≤ 8) (k : Z x g nL ρ (pc + 3) L (.int v :: st) σ1) : Z x g nL ρ pc L (.ref (gAd g (6, 0, 0)) :: st) σ := z_callV (ci := 11) (As := []) hc hd vl_M_57 hdd (6, 0, 0) (dm_M) rfl rfl (ok_M_rains g σ (v, σ1) hf) rfl rfl hst rfl k
def j_M_wearsOf_12 (x1 : Int32) (xs0 : Int32) (σ : Sg) : Option (Int32 × Sg) :=
  b2 (f_M_get x1 (iI 0) σ) (fun v4 σ5 => (if v4 = (iI 1) then some (xs0 + (iI 1), σ5) else (if v4 = (iI 2) then some (xs0 / (iI 2), σ5) else (if v4 = (iI 3) then some ((iI 0), σ5) else (if v4 = (iI 4) then b2 (f_M_get x1 (iI 4) σ5) (fun v7 σ8 => some ((xs0 + (iI 1)) + v7, σ8)) else (if v4 = (iI 5) then b2 (f_M_rains  σ5) (fun v10 σ11 => (if v10 = (iI 0) then some ((iI 0), σ11) else some ((iI 2), σ11))) else some (xs0, σ5)))))))
theorem sj_M_wearsOf_12 {x : Cx} {g : Gv} {ρ : Option Value × Sg} (hc : Zc x g c_M_wearsOf R_M 3 (some .int) 1) (x1 : Int32) (xs0 : Int32) (σ : Sg) (r : Int32 × Sg) (hf : j_M_wearsOf_12 x1 xs0 σ = some r) (hρ : ρ = (some (.int r.1), r.2)) : Z x g 3 ρ 12 [(0, .ref (gAd g (6, 0, 0))), (1, .int x1)] [.int xs0] σ := by
  unfold j_M_wearsOf_12 at hf
  refine z_istore_n (L' := [(2, .int xs0), (0, .ref (gAd g (6, 0, 0))), (1, .int x1)]) hc d_M_wearsOf_12 (by decide) rfl ?_
  refine z_aload_n hc d_M_wearsOf_13 1 rfl ?_
  refine z_iload_n hc d_M_wearsOf_14 2 rfl ?_
  refine z_iconst (v := (iI 0)) hc d_M_wearsOf_15 (by decide) ?_
  obtain ⟨v4, σ5, h6, hf⟩ := bd2 hf
  refine cz_M_53 hc d_M_wearsOf_16 (by decide)  h6 (Nat.le_of_ble_eq_true rfl) ?_
  by_cases hq0 : v4 = (iI 1)
  · have hf := ifp hq0 hf
    refine z_tab (tgt := 52) (off := 33) (iI 1) hc d_M_wearsOf_19 hq0 (by decide) (by decide) (by decide) (by decide) ?_
    refine z_iload_n hc d_M_wearsOf_52 0 rfl ?_
    refine z_iconst (v := (iI 1)) hc d_M_wearsOf_53 (by decide) ?_
    refine z_iadd hc d_M_wearsOf_54 ?_
    exact z_iret hc d_M_wearsOf_55 (rI hf hρ)
  have hf := ifn hq0 hf
  by_cases hq1 : v4 = (iI 2)
  · have hf := ifp hq1 hf
    refine z_tab (tgt := 56) (off := 37) (iI 2) hc d_M_wearsOf_19 hq1 (by decide) (by decide) (by decide) (by decide) ?_
    refine z_iload_n hc d_M_wearsOf_56 0 rfl ?_
    refine z_iconst (v := (iI 2)) hc d_M_wearsOf_57 (by decide) ?_
    refine z_idiv hc d_M_wearsOf_58 (by decide) ?_
    exact z_iret hc d_M_wearsOf_59 (rI hf hρ)
  have hf := ifn hq1 hf
  by_cases hq2 : v4 = (iI 3)
  · have hf := ifp hq2 hf
    refine z_tab (tgt := 60) (off := 41) (iI 3) hc d_M_wearsOf_19 hq2 (by decide) (by decide) (by decide) (by decide) ?_
    refine z_iconst (v := (iI 0)) hc d_M_wearsOf_60 (by decide) ?_
    exact z_iret hc d_M_wearsOf_61 (rI hf hρ)
  have hf := ifn hq2 hf
  by_cases hq3 : v4 = (iI 4)
  · have hf := ifp hq3 hf
    refine z_tab (tgt := 62) (off := 43) (iI 4) hc d_M_wearsOf_19 hq3 (by decide) (by decide) (by decide) (by decide) ?_
    refine z_iload_n hc d_M_wearsOf_62 0 rfl ?_
    refine z_iconst (v := (iI 1)) hc d_M_wearsOf_63 (by decide) ?_
    refine z_iadd hc d_M_wearsOf_64 ?_
    refine z_aload_n hc d_M_wearsOf_65 1 rfl ?_
    refine z_iload_n hc d_M_wearsOf_66 2 rfl ?_
    refine z_iconst (v := (iI 4)) hc d_M_wearsOf_67 (by decide) ?_
    obtain ⟨v7, σ8, h9, hf⟩ := bd2 hf
    refine cz_M_53 hc d_M_wearsOf_68 (by decide)  h9 (Nat.le_of_ble_eq_true rfl) ?_
    refine z_iadd hc d_M_wearsOf_71 ?_
    exact z_iret hc d_M_wearsOf_72 (rI hf hρ)
  have hf := ifn hq3 hf
  by_cases hq4 : v4 = (iI 5)
  · have hf := ifp hq4 hf
    refine z_tab (tgt := 73) (off := 54) (iI 5) hc d_M_wearsOf_19 hq4 (by decide) (by decide) (by decide) (by decide) ?_
    refine z_aload_n hc d_M_wearsOf_73 1 rfl ?_
    obtain ⟨v10, σ11, h12, hf⟩ := bd2 hf
    refine cz_M_57 hc d_M_wearsOf_74 (by decide)  h12 (Nat.le_of_ble_eq_true rfl) ?_
    refine z_if_eq (tgt := 84) hc d_M_wearsOf_77 (by decide) (fun hq => ?_) (fun hq => ?_)
    · have hf := ifp hq hf
      refine z_iconst (v := (iI 0)) hc d_M_wearsOf_84 (by decide) ?_
      exact z_iret hc d_M_wearsOf_85 (rI hf hρ)
    · have hf := ifn hq hf
      refine z_iconst (v := (iI 2)) hc d_M_wearsOf_80 (by decide) ?_
      refine z_goto (tgt := 85) hc d_M_wearsOf_81 (by decide) ?_
      exact z_iret hc d_M_wearsOf_85 (rI hf hρ)
  have hf := ifn hq4 hf
  refine z_tabD (tgt := 86) 5 (by decide) hc d_M_wearsOf_19 (fun j hj => by match j, hj with | 0, _ => exact hq0 | 1, _ => exact hq1 | 2, _ => exact hq2 | 3, _ => exact hq3 | 4, _ => exact hq4) (by decide) ?_
  refine z_iload_n hc d_M_wearsOf_86 0 rfl ?_
  exact z_iret hc d_M_wearsOf_87 (rI hf hρ)
def f_M_wearsOf (x1 : Int32) (σ : Sg) : Option (Int32 × Sg) :=
  b2 (f_M_rains  σ) (fun v1 σ2 => (if v1 = (iI 0) then j_M_wearsOf_12 x1 (iI 1) σ2 else j_M_wearsOf_12 x1 (iI 3) σ2))
theorem ok_M_wearsOf (g : Gv) (x1 : Int32) (σ : Sg) (r : Int32 × Sg) (hf : f_M_wearsOf x1 σ = some r) : Ok g y_M_wearsOf c_M_wearsOf 3 (some .int) 1 [.ref (gAd g (6, 0, 0)), .int x1] σ (some (.int r.1), r.2) := by
  unfold f_M_wearsOf at hf
  refine Ok.of [(0, .ref (gAd g (6, 0, 0))), (1, .int x1)] (by decide) (Nat.le_of_ble_eq_true rfl) rfl ?_
  intro x hc
  have hc : Zc x g c_M_wearsOf R_M 3 (some .int) 1 := hc
  obtain ⟨ρ, hρ⟩ : ∃ ρ : Option Value × Sg, ρ = (some (.int r.1), r.2) := ⟨_, rfl⟩
  rw [← hρ]
  refine z_aload_n hc d_M_wearsOf_0 0 rfl ?_
  obtain ⟨v1, σ2, h3, hf⟩ := bd2 hf
  refine cz_M_57 hc d_M_wearsOf_1 (by decide)  h3 (Nat.le_of_ble_eq_true rfl) ?_
  refine z_if_eq (tgt := 11) hc d_M_wearsOf_4 (by decide) (fun hq => ?_) (fun hq => ?_)
  · have hf := ifp hq hf
    refine z_iconst (v := (iI 1)) hc d_M_wearsOf_11 (by decide) ?_
    refine z_sub [0, 1] (L' := [(0, .ref (gAd g (6, 0, 0))), (1, .int x1)]) rfl ?_
    exact sj_M_wearsOf_12 hc x1 (iI 1)   σ2 _ hf hρ
  · have hf := ifn hq hf
    refine z_iconst (v := (iI 3)) hc d_M_wearsOf_7 (by decide) ?_
    refine z_goto (tgt := 12) hc d_M_wearsOf_8 (by decide) ?_
    refine z_sub [0, 1] (L' := [(0, .ref (gAd g (6, 0, 0))), (1, .int x1)]) rfl ?_
    exact sj_M_wearsOf_12 hc x1 (iI 3)   σ2 _ hf hρ
def f_M_breedsOf (x1 : Int32) (σ : Sg) : Option (Int32 × Sg) :=
  b2 (f_M_get x1 (iI 0) σ) (fun v1 σ2 => (if v1 = (iI 3) then some ((iI 0), σ2) else (if v1 = (iI 2) then some ((iI 2), σ2) else (if v1 = (iI 5) then b2 (f_M_rains  σ2) (fun v4 σ5 => (if v4 = (iI 0) then some ((iI 2), σ5) else some ((iI 0), σ5))) else some ((iI 1), σ2)))))
theorem ok_M_breedsOf (g : Gv) (x1 : Int32) (σ : Sg) (r : Int32 × Sg) (hf : f_M_breedsOf x1 σ = some r) : Ok g y_M_breedsOf c_M_breedsOf 3 (some .int) 1 [.ref (gAd g (6, 0, 0)), .int x1] σ (some (.int r.1), r.2) := by
  unfold f_M_breedsOf at hf
  refine Ok.of [(0, .ref (gAd g (6, 0, 0))), (1, .int x1)] (by decide) (Nat.le_of_ble_eq_true rfl) rfl ?_
  intro x hc
  have hc : Zc x g c_M_breedsOf R_M 3 (some .int) 1 := hc
  obtain ⟨ρ, hρ⟩ : ∃ ρ : Option Value × Sg, ρ = (some (.int r.1), r.2) := ⟨_, rfl⟩
  rw [← hρ]
  refine z_aload_n hc d_M_breedsOf_0 0 rfl ?_
  refine z_iload_n hc d_M_breedsOf_1 1 rfl ?_
  refine z_iconst (v := (iI 0)) hc d_M_breedsOf_2 (by decide) ?_
  obtain ⟨v1, σ2, h3, hf⟩ := bd2 hf
  refine cz_M_53 hc d_M_breedsOf_3 (by decide)  h3 (Nat.le_of_ble_eq_true rfl) ?_
  refine z_istore_n (L' := [(2, .int v1), (0, .ref (gAd g (6, 0, 0))), (1, .int x1)]) hc d_M_breedsOf_6 (by decide) rfl ?_
  refine z_iload_n hc d_M_breedsOf_7 0 rfl ?_
  refine z_iconst (v := (iI 3)) hc d_M_breedsOf_8 (by decide) ?_
  refine z_icmp_ne (tgt := 16) hc d_M_breedsOf_9 (by decide) (fun hq => ?_) (fun hq => ?_)
  · have hf := ifn hq hf
    refine z_iload_n hc d_M_breedsOf_16 0 rfl ?_
    refine z_iconst (v := (iI 2)) hc d_M_breedsOf_17 (by decide) ?_
    refine z_icmp_ne (tgt := 25) hc d_M_breedsOf_18 (by decide) (fun hq => ?_) (fun hq => ?_)
    · have hf := ifn hq hf
      refine z_iload_n hc d_M_breedsOf_25 0 rfl ?_
      refine z_iconst (v := (iI 5)) hc d_M_breedsOf_26 (by decide) ?_
      refine z_icmp_ne (tgt := 45) hc d_M_breedsOf_27 (by decide) (fun hq => ?_) (fun hq => ?_)
      · have hf := ifn hq hf
        refine z_iconst (v := (iI 1)) hc d_M_breedsOf_45 (by decide) ?_
        exact z_iret hc d_M_breedsOf_46 (rI hf hρ)
      · have hf := ifp hq hf
        refine z_aload_n hc d_M_breedsOf_30 1 rfl ?_
        obtain ⟨v4, σ5, h6, hf⟩ := bd2 hf
        refine cz_M_57 hc d_M_breedsOf_31 (by decide)  h6 (Nat.le_of_ble_eq_true rfl) ?_
        refine z_if_eq (tgt := 41) hc d_M_breedsOf_34 (by decide) (fun hq => ?_) (fun hq => ?_)
        · have hf := ifp hq hf
          refine z_iconst (v := (iI 2)) hc d_M_breedsOf_41 (by decide) ?_
          refine z_goto (tgt := 46) hc d_M_breedsOf_42 (by decide) ?_
          exact z_iret hc d_M_breedsOf_46 (rI hf hρ)
        · have hf := ifn hq hf
          refine z_iconst (v := (iI 0)) hc d_M_breedsOf_37 (by decide) ?_
          refine z_goto (tgt := 46) hc d_M_breedsOf_38 (by decide) ?_
          exact z_iret hc d_M_breedsOf_46 (rI hf hρ)
    · have hf := ifp hq hf
      refine z_iconst (v := (iI 2)) hc d_M_breedsOf_21 (by decide) ?_
      refine z_goto (tgt := 46) hc d_M_breedsOf_22 (by decide) ?_
      exact z_iret hc d_M_breedsOf_46 (rI hf hρ)
  · have hf := ifp hq hf
    refine z_iconst (v := (iI 0)) hc d_M_breedsOf_12 (by decide) ?_
    refine z_goto (tgt := 46) hc d_M_breedsOf_13 (by decide) ?_
    exact z_iret hc d_M_breedsOf_46 (rI hf hρ)
def j_M_beatenOf_17 (x1 : Int32) (σ : Sg) : Option (Int32 × Sg) :=
  b2 (f_M_get x1 (iI 4) σ) (fun v4 σ5 => some ((iI 10) - v4, σ5))
theorem sj_M_beatenOf_17 {x : Cx} {g : Gv} {ρ : Option Value × Sg} (hc : Zc x g c_M_beatenOf R_M 3 (some .int) 1) (x1 : Int32) (σ : Sg) (r : Int32 × Sg) (hf : j_M_beatenOf_17 x1 σ = some r) (hρ : ρ = (some (.int r.1), r.2)) : Z x g 3 ρ 17 [(0, .ref (gAd g (6, 0, 0))), (1, .int x1)] [] σ := by
  unfold j_M_beatenOf_17 at hf
  refine z_bipush (v := (iI 10)) hc d_M_beatenOf_17 (by decide) ?_
  refine z_aload_n hc d_M_beatenOf_19 0 rfl ?_
  refine z_iload_n hc d_M_beatenOf_20 1 rfl ?_
  refine z_iconst (v := (iI 4)) hc d_M_beatenOf_21 (by decide) ?_
  obtain ⟨v4, σ5, h6, hf⟩ := bd2 hf
  refine cz_M_53 hc d_M_beatenOf_22 (by decide)  h6 (Nat.le_of_ble_eq_true rfl) ?_
  refine z_isub hc d_M_beatenOf_25 ?_
  refine z_goto (tgt := 60) hc d_M_beatenOf_26 (by decide) ?_
  exact z_iret hc d_M_beatenOf_60 (rI hf hρ)
def f_M_beatenOf (x1 : Int32) (σ : Sg) : Option (Int32 × Sg) :=
  b2 (f_M_get x1 (iI 0) σ) (fun v1 σ2 => (if v1 = (iI 1) then j_M_beatenOf_17 x1  σ2 else (if v1 = (iI 4) then j_M_beatenOf_17 x1  σ2 else (if v1 = (iI 2) then some ((iI 6), σ2) else (if v1 = (iI 3) then some ((iI 0), σ2) else (if v1 = (iI 5) then some ((iI 12), σ2) else some ((iI 10), σ2)))))))
theorem ok_M_beatenOf (g : Gv) (x1 : Int32) (σ : Sg) (r : Int32 × Sg) (hf : f_M_beatenOf x1 σ = some r) : Ok g y_M_beatenOf c_M_beatenOf 3 (some .int) 1 [.ref (gAd g (6, 0, 0)), .int x1] σ (some (.int r.1), r.2) := by
  unfold f_M_beatenOf at hf
  refine Ok.of [(0, .ref (gAd g (6, 0, 0))), (1, .int x1)] (by decide) (Nat.le_of_ble_eq_true rfl) rfl ?_
  intro x hc
  have hc : Zc x g c_M_beatenOf R_M 3 (some .int) 1 := hc
  obtain ⟨ρ, hρ⟩ : ∃ ρ : Option Value × Sg, ρ = (some (.int r.1), r.2) := ⟨_, rfl⟩
  rw [← hρ]
  refine z_aload_n hc d_M_beatenOf_0 0 rfl ?_
  refine z_iload_n hc d_M_beatenOf_1 1 rfl ?_
  refine z_iconst (v := (iI 0)) hc d_M_beatenOf_2 (by decide) ?_
  obtain ⟨v1, σ2, h3, hf⟩ := bd2 hf
  refine cz_M_53 hc d_M_beatenOf_3 (by decide)  h3 (Nat.le_of_ble_eq_true rfl) ?_
  refine z_istore_n (L' := [(2, .int v1), (0, .ref (gAd g (6, 0, 0))), (1, .int x1)]) hc d_M_beatenOf_6 (by decide) rfl ?_
  refine z_iload_n hc d_M_beatenOf_7 0 rfl ?_
  refine z_iconst (v := (iI 1)) hc d_M_beatenOf_8 (by decide) ?_
  refine z_icmp_eq (tgt := 17) hc d_M_beatenOf_9 (by decide) (fun hq => ?_) (fun hq => ?_)
  · have hf := ifp hq hf
    refine z_sub [1, 2] (L' := [(0, .ref (gAd g (6, 0, 0))), (1, .int x1)]) rfl ?_
    exact sj_M_beatenOf_17 hc x1    σ2 _ hf hρ
  · have hf := ifn hq hf
    refine z_iload_n hc d_M_beatenOf_12 0 rfl ?_
    refine z_iconst (v := (iI 4)) hc d_M_beatenOf_13 (by decide) ?_
    refine z_icmp_ne (tgt := 29) hc d_M_beatenOf_14 (by decide) (fun hq => ?_) (fun hq => ?_)
    · have hf := ifn hq hf
      refine z_iload_n hc d_M_beatenOf_29 0 rfl ?_
      refine z_iconst (v := (iI 2)) hc d_M_beatenOf_30 (by decide) ?_
      refine z_icmp_ne (tgt := 39) hc d_M_beatenOf_31 (by decide) (fun hq => ?_) (fun hq => ?_)
      · have hf := ifn hq hf
        refine z_iload_n hc d_M_beatenOf_39 0 rfl ?_
        refine z_iconst (v := (iI 3)) hc d_M_beatenOf_40 (by decide) ?_
        refine z_icmp_ne (tgt := 48) hc d_M_beatenOf_41 (by decide) (fun hq => ?_) (fun hq => ?_)
        · have hf := ifn hq hf
          refine z_iload_n hc d_M_beatenOf_48 0 rfl ?_
          refine z_iconst (v := (iI 5)) hc d_M_beatenOf_49 (by decide) ?_
          refine z_icmp_ne (tgt := 58) hc d_M_beatenOf_50 (by decide) (fun hq => ?_) (fun hq => ?_)
          · have hf := ifn hq hf
            refine z_bipush (v := (iI 10)) hc d_M_beatenOf_58 (by decide) ?_
            exact z_iret hc d_M_beatenOf_60 (rI hf hρ)
          · have hf := ifp hq hf
            refine z_bipush (v := (iI 12)) hc d_M_beatenOf_53 (by decide) ?_
            refine z_goto (tgt := 60) hc d_M_beatenOf_55 (by decide) ?_
            exact z_iret hc d_M_beatenOf_60 (rI hf hρ)
        · have hf := ifp hq hf
          refine z_iconst (v := (iI 0)) hc d_M_beatenOf_44 (by decide) ?_
          refine z_goto (tgt := 60) hc d_M_beatenOf_45 (by decide) ?_
          exact z_iret hc d_M_beatenOf_60 (rI hf hρ)
      · have hf := ifp hq hf
        refine z_bipush (v := (iI 6)) hc d_M_beatenOf_34 (by decide) ?_
        refine z_goto (tgt := 60) hc d_M_beatenOf_36 (by decide) ?_
        exact z_iret hc d_M_beatenOf_60 (rI hf hρ)
    · have hf := ifp hq hf
      refine z_sub [1, 2] (L' := [(0, .ref (gAd g (6, 0, 0))), (1, .int x1)]) rfl ?_
      exact sj_M_beatenOf_17 hc x1    σ2 _ hf hρ
theorem vl_M_61 : VL R_M 61 y_M_reachOf c_M_reachOf 3 (some .int) 1 := ⟨tb4 215 (by decide +kernel) (by decide +kernel), tb4 217 (by decide +kernel) (by decide +kernel), tbp 13 (by decide +kernel), tb1 12 (by decide +kernel) (by decide +kernel), k_M_reachOf, by decide, by decide, by decide +kernel, by decide⟩
theorem cz_M_61 {x : Cx} {g : Gv} {cc : ByteArray} {nL d pc : Nat} {ret : Option FieldType} {ρ : Option Value × Sg} {L : List (Nat × Value)} {st : List Value} {σ : Sg} (hc : Zc x g cc R_M nL ret d) (hd : decode cc pc = .ok (.invokevirtual 61, 3)) (hdd : 2 ≤ d) {x1 : Int32} {v : Int32} {σ1 : Sg} (hf : f_M_reachOf x1 σ = some (v, σ1)) (hst : (st.map (fun v => v.category)).sum ≤ 8) (k : Z x g nL ρ (pc + 3) L (.int v :: st) σ1) : Z x g nL ρ pc L (.int x1 :: .ref (gAd g (6, 0, 0)) :: st) σ := z_callV (ci := 11) (As := [.int x1]) hc hd vl_M_61 hdd (6, 0, 0) (dm_M) rfl rfl (ok_M_reachOf g x1 σ (v, σ1) hf) rfl rfl hst rfl k
def f_M_liesOn (x1 : Int32) (x2 : Int32) (σ : Sg) : Option (Int32 × Sg) :=
  b2 (f_M_get x1 (iI 5) σ) (fun v1 σ2 => (if v1 < (iI 0) then some ((iI 0), σ2) else (if x2 < v1 then some ((iI 0), σ2) else b2 (f_M_reachOf x1 σ2) (fun v4 σ5 => (if (v1 + v4) ≤ x2 then some ((iI 0), σ5) else some ((iI 1), σ5))))))
theorem ok_M_liesOn (g : Gv) (x1 : Int32) (x2 : Int32) (σ : Sg) (r : Int32 × Sg) (hf : f_M_liesOn x1 x2 σ = some r) : Ok g y_M_liesOn c_M_liesOn 4 (some .boolean) 2 [.ref (gAd g (6, 0, 0)), .int x1, .int x2] σ (some (.int r.1), r.2) := by
  unfold f_M_liesOn at hf
  refine Ok.of [(0, .ref (gAd g (6, 0, 0))), (1, .int x1), (2, .int x2)] (by decide) (Nat.le_of_ble_eq_true rfl) rfl ?_
  intro x hc
  have hc : Zc x g c_M_liesOn R_M 4 (some .boolean) 2 := hc
  obtain ⟨ρ, hρ⟩ : ∃ ρ : Option Value × Sg, ρ = (some (.int r.1), r.2) := ⟨_, rfl⟩
  rw [← hρ]
  refine z_aload_n hc d_M_liesOn_0 0 rfl ?_
  refine z_iload_n hc d_M_liesOn_1 1 rfl ?_
  refine z_iconst (v := (iI 5)) hc d_M_liesOn_2 (by decide) ?_
  obtain ⟨v1, σ2, h3, hf⟩ := bd2 hf
  refine cz_M_53 hc d_M_liesOn_3 (by decide)  h3 (Nat.le_of_ble_eq_true rfl) ?_
  refine z_istore_n (L' := [(3, .int v1), (0, .ref (gAd g (6, 0, 0))), (1, .int x1), (2, .int x2)]) hc d_M_liesOn_6 (by decide) rfl ?_
  refine z_iload_n hc d_M_liesOn_7 0 rfl ?_
  refine z_if_lt (tgt := 31) hc d_M_liesOn_8 (by decide) (fun hq => ?_) (fun hq => ?_)
  · have hf := ifp hq hf
    refine z_iconst (v := (iI 0)) hc d_M_liesOn_31 (by decide) ?_
    exact z_zret hc d_M_liesOn_32 (by decide) (rI hf hρ)
  · have hf := ifn hq hf
    refine z_iload_n hc d_M_liesOn_11 3 rfl ?_
    refine z_iload_n hc d_M_liesOn_12 0 rfl ?_
    refine z_icmp_lt (tgt := 31) hc d_M_liesOn_13 (by decide) (fun hq => ?_) (fun hq => ?_)
    · have hf := ifp hq hf
      refine z_iconst (v := (iI 0)) hc d_M_liesOn_31 (by decide) ?_
      exact z_zret hc d_M_liesOn_32 (by decide) (rI hf hρ)
    · have hf := ifn hq hf
      refine z_iload_n hc d_M_liesOn_16 3 rfl ?_
      refine z_iload_n hc d_M_liesOn_17 0 rfl ?_
      refine z_aload_n hc d_M_liesOn_18 1 rfl ?_
      refine z_iload_n hc d_M_liesOn_19 2 rfl ?_
      obtain ⟨v4, σ5, h6, hf⟩ := bd2 hf
      refine cz_M_61 hc d_M_liesOn_20 (by decide)  h6 (Nat.le_of_ble_eq_true rfl) ?_
      refine z_iadd hc d_M_liesOn_23 ?_
      refine z_icmp_ge (tgt := 31) hc d_M_liesOn_24 (by decide) (fun hq => ?_) (fun hq => ?_)
      · have hf := ifp hq hf
        refine z_iconst (v := (iI 0)) hc d_M_liesOn_31 (by decide) ?_
        exact z_zret hc d_M_liesOn_32 (by decide) (rI hf hρ)
      · have hf := ifn hq hf
        refine z_iconst (v := (iI 1)) hc d_M_liesOn_27 (by decide) ?_
        refine z_goto (tgt := 32) hc d_M_liesOn_28 (by decide) ?_
        exact z_zret hc d_M_liesOn_32 (by decide) (rI hf hρ)
theorem vl_M_65 : VL R_M 65 y_M_liesOn c_M_liesOn 4 (some .boolean) 2 := ⟨tb4 207 (by decide +kernel) (by decide +kernel), tb4 209 (by decide +kernel) (by decide +kernel), tbp 11 (by decide +kernel), tb1 12 (by decide +kernel) (by decide +kernel), k_M_liesOn, by decide, by decide, by decide +kernel, by decide⟩
theorem cz_M_65 {x : Cx} {g : Gv} {cc : ByteArray} {nL d pc : Nat} {ret : Option FieldType} {ρ : Option Value × Sg} {L : List (Nat × Value)} {st : List Value} {σ : Sg} (hc : Zc x g cc R_M nL ret d) (hd : decode cc pc = .ok (.invokevirtual 65, 3)) (hdd : 3 ≤ d) {x1 : Int32} {x2 : Int32} {v : Int32} {σ1 : Sg} (hf : f_M_liesOn x1 x2 σ = some (v, σ1)) (hst : (st.map (fun v => v.category)).sum ≤ 8) (k : Z x g nL ρ (pc + 3) L (.int v :: st) σ1) : Z x g nL ρ pc L (.int x2 :: .int x1 :: .ref (gAd g (6, 0, 0)) :: st) σ := z_callV (ci := 11) (As := [.int x1, .int x2]) hc hd vl_M_65 hdd (6, 0, 0) (dm_M) rfl rfl (ok_M_liesOn g x1 x2 σ (v, σ1) hf) rfl rfl hst rfl k
def b_M_topOf_4 (x1 : Int32) (x2 : Int32) (x3 : Int32) (σ : Sg) : Option ((Int32 × Int32 × Sg) ⊕ (Int32 × Sg)) :=
  Option.bind (rd (iI 2) 66) (fun j1 => (if (σ.1 20 0 0 j1) ≤ x3 then some (.inr (x2, σ)) else b2 (f_M_liesOn x3 x1 σ) (fun v3 σ4 => (if v3 = (iI 0) then some (.inl (x2, x3 + (iI 1), σ4)) else (if x2 < (iI 0) then some (.inl (x3, x3 + (iI 1), σ4)) else b2 (f_M_get x3 (iI 6) σ4) (fun v6 σ7 => b2 (f_M_get x2 (iI 6) σ7) (fun v9 σ10 => (if v6 < v9 then some (.inl (x2, x3 + (iI 1), σ10)) else some (.inl (x3, x3 + (iI 1), σ10))))))))))
theorem sb_M_topOf_4 {x : Cx} {g : Gv} {ρ : Option Value × Sg} (hc : Zc x g c_M_topOf R_M 4 (some .int) 3) (x1 : Int32) (x2 : Int32) (x3 : Int32) (σ : Sg) (r : (Int32 × Int32 × Sg) ⊕ (Int32 × Sg)) (hf : b_M_topOf_4 x1 x2 x3 σ = some r) (hi : ∀ a', r = .inl a' → Z x g 4 ρ 4 [(0, .ref (gAd g (6, 0, 0))), (1, .int x1), (2, .int a'.1), (3, .int a'.2.1)] [] a'.2.2) (he0 : ∀ b, r = .inr b → Z x g 4 ρ 56 [(2, .int b.1)] [] b.2) : Z x g 4 ρ 4 [(0, .ref (gAd g (6, 0, 0))), (1, .int x1), (2, .int x2), (3, .int x3)] [] σ := by
  unfold b_M_topOf_4 at hf
  refine z_iload_n hc d_M_topOf_4 3 rfl ?_
  refine z_aload_n hc d_M_topOf_5 0 rfl ?_
  refine gf_M_9 hc d_M_topOf_6  ?_
  refine z_iconst (v := (iI 2)) hc d_M_topOf_9 (by decide) ?_
  obtain ⟨j1, hj2, hf⟩ := bd hf
  refine ald_ms hc d_M_topOf_10  hj2 ?_
  refine z_icmp_ge (tgt := 56) hc d_M_topOf_11 (by decide) (fun hq => ?_) (fun hq => ?_)
  · have hf := ifp hq hf
    refine z_sub [2] (L' := [(2, .int x2)]) rfl ?_
    exact he0 (x2, σ) (Option.some.inj hf).symm
  · have hf := ifn hq hf
    refine z_aload_n hc d_M_topOf_14 0 rfl ?_
    refine z_iload_n hc d_M_topOf_15 3 rfl ?_
    refine z_iload_n hc d_M_topOf_16 1 rfl ?_
    obtain ⟨v3, σ4, h5, hf⟩ := bd2 hf
    refine cz_M_65 hc d_M_topOf_17 (by decide)  h5 (Nat.le_of_ble_eq_true rfl) ?_
    refine z_if_eq (tgt := 48) hc d_M_topOf_20 (by decide) (fun hq => ?_) (fun hq => ?_)
    · have hf := ifp hq hf
      refine z_iload_n hc d_M_topOf_48 2 rfl ?_
      refine z_istore_n (L' := [(2, .int x2), (0, .ref (gAd g (6, 0, 0))), (1, .int x1), (3, .int x3)]) hc d_M_topOf_49 (by decide) rfl ?_
      refine z_iinc (v := x3 + (iI 1)) (L' := [(3, .int (x3 + (iI 1))), (2, .int x2), (0, .ref (gAd g (6, 0, 0))), (1, .int x1)]) hc d_M_topOf_50 3 rfl rfl (by decide) rfl ?_
      refine z_goto (tgt := 4) hc d_M_topOf_53 (by decide) ?_
      refine z_sub [2, 3, 1, 0] (L' := [(0, .ref (gAd g (6, 0, 0))), (1, .int x1), (2, .int x2), (3, .int (x3 + (iI 1)))]) rfl ?_
      exact hi (x2, x3 + (iI 1), σ4) (Option.some.inj hf).symm
    · have hf := ifn hq hf
      refine z_iload_n hc d_M_topOf_23 2 rfl ?_
      refine z_if_lt (tgt := 44) hc d_M_topOf_24 (by decide) (fun hq => ?_) (fun hq => ?_)
      · have hf := ifp hq hf
        refine z_iload_n hc d_M_topOf_44 3 rfl ?_
        refine z_goto (tgt := 49) hc d_M_topOf_45 (by decide) ?_
        refine z_istore_n (L' := [(2, .int x3), (0, .ref (gAd g (6, 0, 0))), (1, .int x1), (3, .int x3)]) hc d_M_topOf_49 (by decide) rfl ?_
        refine z_iinc (v := x3 + (iI 1)) (L' := [(3, .int (x3 + (iI 1))), (2, .int x3), (0, .ref (gAd g (6, 0, 0))), (1, .int x1)]) hc d_M_topOf_50 3 rfl rfl (by decide) rfl ?_
        refine z_goto (tgt := 4) hc d_M_topOf_53 (by decide) ?_
        refine z_sub [2, 3, 1, 0] (L' := [(0, .ref (gAd g (6, 0, 0))), (1, .int x1), (2, .int x3), (3, .int (x3 + (iI 1)))]) rfl ?_
        exact hi (x3, x3 + (iI 1), σ4) (Option.some.inj hf).symm
      · have hf := ifn hq hf
        refine z_aload_n hc d_M_topOf_27 0 rfl ?_
        refine z_iload_n hc d_M_topOf_28 3 rfl ?_
        refine z_bipush (v := (iI 6)) hc d_M_topOf_29 (by decide) ?_
        obtain ⟨v6, σ7, h8, hf⟩ := bd2 hf
        refine cz_M_53 hc d_M_topOf_31 (by decide)  h8 (Nat.le_of_ble_eq_true rfl) ?_
        refine z_aload_n hc d_M_topOf_34 0 rfl ?_
        refine z_iload_n hc d_M_topOf_35 2 rfl ?_
        refine z_bipush (v := (iI 6)) hc d_M_topOf_36 (by decide) ?_
        obtain ⟨v9, σ10, h11, hf⟩ := bd2 hf
        refine cz_M_53 hc d_M_topOf_38 (by decide)  h11 (Nat.le_of_ble_eq_true rfl) ?_
        refine z_icmp_lt (tgt := 48) hc d_M_topOf_41 (by decide) (fun hq => ?_) (fun hq => ?_)
        · have hf := ifp hq hf
          refine z_iload_n hc d_M_topOf_48 2 rfl ?_
          refine z_istore_n (L' := [(2, .int x2), (0, .ref (gAd g (6, 0, 0))), (1, .int x1), (3, .int x3)]) hc d_M_topOf_49 (by decide) rfl ?_
          refine z_iinc (v := x3 + (iI 1)) (L' := [(3, .int (x3 + (iI 1))), (2, .int x2), (0, .ref (gAd g (6, 0, 0))), (1, .int x1)]) hc d_M_topOf_50 3 rfl rfl (by decide) rfl ?_
          refine z_goto (tgt := 4) hc d_M_topOf_53 (by decide) ?_
          refine z_sub [2, 3, 1, 0] (L' := [(0, .ref (gAd g (6, 0, 0))), (1, .int x1), (2, .int x2), (3, .int (x3 + (iI 1)))]) rfl ?_
          exact hi (x2, x3 + (iI 1), σ10) (Option.some.inj hf).symm
        · have hf := ifn hq hf
          refine z_iload_n hc d_M_topOf_44 3 rfl ?_
          refine z_goto (tgt := 49) hc d_M_topOf_45 (by decide) ?_
          refine z_istore_n (L' := [(2, .int x3), (0, .ref (gAd g (6, 0, 0))), (1, .int x1), (3, .int x3)]) hc d_M_topOf_49 (by decide) rfl ?_
          refine z_iinc (v := x3 + (iI 1)) (L' := [(3, .int (x3 + (iI 1))), (2, .int x3), (0, .ref (gAd g (6, 0, 0))), (1, .int x1)]) hc d_M_topOf_50 3 rfl rfl (by decide) rfl ?_
          refine z_goto (tgt := 4) hc d_M_topOf_53 (by decide) ?_
          refine z_sub [2, 3, 1, 0] (L' := [(0, .ref (gAd g (6, 0, 0))), (1, .int x1), (2, .int x3), (3, .int (x3 + (iI 1)))]) rfl ?_
          exact hi (x3, x3 + (iI 1), σ10) (Option.some.inj hf).symm
def f_M_topOf (x1 : Int32) (σ : Sg) : Option (Int32 × Sg) :=
  Option.bind (lp (fun a => b_M_topOf_4 x1 a.1 a.2.1 a.2.2) FU ((iI (-1)), (iI 0), σ)) (fun b15 => some (b15.1, b15.2))
theorem ok_M_topOf (g : Gv) (x1 : Int32) (σ : Sg) (r : Int32 × Sg) (hf : f_M_topOf x1 σ = some r) : Ok g y_M_topOf c_M_topOf 4 (some .int) 3 [.ref (gAd g (6, 0, 0)), .int x1] σ (some (.int r.1), r.2) := by
  unfold f_M_topOf at hf
  refine Ok.of [(0, .ref (gAd g (6, 0, 0))), (1, .int x1)] (by decide) (Nat.le_of_ble_eq_true rfl) rfl ?_
  intro x hc
  have hc : Zc x g c_M_topOf R_M 4 (some .int) 3 := hc
  obtain ⟨ρ, hρ⟩ : ∃ ρ : Option Value × Sg, ρ = (some (.int r.1), r.2) := ⟨_, rfl⟩
  rw [← hρ]
  refine z_iconst (v := (iI (-1))) hc d_M_topOf_0 (by decide) ?_
  refine z_istore_n (L' := [(2, .int (iI (-1))), (0, .ref (gAd g (6, 0, 0))), (1, .int x1)]) hc d_M_topOf_1 (by decide) rfl ?_
  refine z_iconst (v := (iI 0)) hc d_M_topOf_2 (by decide) ?_
  refine z_istore_n (L' := [(3, .int (iI 0)), (2, .int (iI (-1))), (0, .ref (gAd g (6, 0, 0))), (1, .int x1)]) hc d_M_topOf_3 (by decide) rfl ?_
  refine z_sub [2, 3, 1, 0] (L' := [(0, .ref (gAd g (6, 0, 0))), (1, .int x1), (2, .int (iI (-1))), (3, .int (iI 0))]) rfl ?_
  obtain ⟨⟨y13, σ14⟩, hl16, hf⟩ := bd hf
  try dsimp only at hf
  refine lp_walk (α := (Int32 × Int32 × Sg)) (β := (Int32 × Sg)) (body := (fun a : (Int32 × Int32 × Sg) => b_M_topOf_4 x1 a.1 a.2.1 a.2.2)) (In := (fun a : (Int32 × Int32 × Sg) => Z x g 4 ρ 4 [(0, .ref (gAd g (6, 0, 0))), (1, .int x1), (2, .int a.1), (3, .int a.2.1)] [] a.2.2)) (Out := (fun b => Z x g 4 ρ 56 [(2, .int b.1)] [] b.2)) (fun a r hb hi ho => sb_M_topOf_4 hc x1  a.1 a.2.1 a.2.2 r hb hi (fun b e => ho _ e)) FU ((iI (-1)), (iI 0), σ) _ hl16 ?_
  dsimp only
  refine z_iload_n hc d_M_topOf_56 0 rfl ?_
  exact z_iret hc d_M_topOf_57 (rI hf hρ)
theorem vl_M_69 : VL R_M 69 y_M_topOf c_M_topOf 4 (some .int) 1 := ⟨tb4 223 (by decide +kernel) (by decide +kernel), tb4 225 (by decide +kernel) (by decide +kernel), tbp 15 (by decide +kernel), tb1 12 (by decide +kernel) (by decide +kernel), k_M_topOf, by decide, by decide, by decide +kernel, by decide⟩
theorem cz_M_69 {x : Cx} {g : Gv} {cc : ByteArray} {nL d pc : Nat} {ret : Option FieldType} {ρ : Option Value × Sg} {L : List (Nat × Value)} {st : List Value} {σ : Sg} (hc : Zc x g cc R_M nL ret d) (hd : decode cc pc = .ok (.invokevirtual 69, 3)) (hdd : 4 ≤ d) {x1 : Int32} {v : Int32} {σ1 : Sg} (hf : f_M_topOf x1 σ = some (v, σ1)) (hst : (st.map (fun v => v.category)).sum ≤ 8) (k : Z x g nL ρ (pc + 3) L (.int v :: st) σ1) : Z x g nL ρ pc L (.int x1 :: .ref (gAd g (6, 0, 0)) :: st) σ := z_callV (ci := 11) (As := [.int x1]) hc hd vl_M_69 hdd (6, 0, 0) (dm_M) rfl rfl (ok_M_topOf g x1 σ (v, σ1) hf) rfl rfl hst rfl k
def f_M_whoseIs (x1 : Int32) (σ : Sg) : Option (Int32 × Sg) :=
  b2 (f_M_topOf x1 σ) (fun v1 σ2 => (if (iI 0) ≤ v1 then b2 (f_M_get v1 (iI 1) σ2) (fun v4 σ5 => some (v4, σ5)) else some ((iI (-1)), σ2)))
theorem ok_M_whoseIs (g : Gv) (x1 : Int32) (σ : Sg) (r : Int32 × Sg) (hf : f_M_whoseIs x1 σ = some r) : Ok g y_M_whoseIs c_M_whoseIs 3 (some .int) 4 [.ref (gAd g (6, 0, 0)), .int x1] σ (some (.int r.1), r.2) := by
  unfold f_M_whoseIs at hf
  refine Ok.of [(0, .ref (gAd g (6, 0, 0))), (1, .int x1)] (by decide) (Nat.le_of_ble_eq_true rfl) rfl ?_
  intro x hc
  have hc : Zc x g c_M_whoseIs R_M 3 (some .int) 4 := hc
  obtain ⟨ρ, hρ⟩ : ∃ ρ : Option Value × Sg, ρ = (some (.int r.1), r.2) := ⟨_, rfl⟩
  rw [← hρ]
  refine z_aload_n hc d_M_whoseIs_0 0 rfl ?_
  refine z_iload_n hc d_M_whoseIs_1 1 rfl ?_
  obtain ⟨v1, σ2, h3, hf⟩ := bd2 hf
  refine cz_M_69 hc d_M_whoseIs_2 (by decide)  h3 (Nat.le_of_ble_eq_true rfl) ?_
  refine z_istore_n (L' := [(2, .int v1), (0, .ref (gAd g (6, 0, 0))), (1, .int x1)]) hc d_M_whoseIs_5 (by decide) rfl ?_
  refine z_iload_n hc d_M_whoseIs_6 0 rfl ?_
  refine z_if_ge (tgt := 14) hc d_M_whoseIs_7 (by decide) (fun hq => ?_) (fun hq => ?_)
  · have hf := ifp hq hf
    refine z_aload_n hc d_M_whoseIs_14 1 rfl ?_
    refine z_iload_n hc d_M_whoseIs_15 0 rfl ?_
    refine z_iconst (v := (iI 1)) hc d_M_whoseIs_16 (by decide) ?_
    obtain ⟨v4, σ5, h6, hf⟩ := bd2 hf
    refine cz_M_53 hc d_M_whoseIs_17 (by decide)  h6 (Nat.le_of_ble_eq_true rfl) ?_
    exact z_iret hc d_M_whoseIs_20 (rI hf hρ)
  · have hf := ifn hq hf
    refine z_iconst (v := (iI (-1))) hc d_M_whoseIs_10 (by decide) ?_
    refine z_goto (tgt := 20) hc d_M_whoseIs_11 (by decide) ?_
    exact z_iret hc d_M_whoseIs_20 (rI hf hρ)
theorem vl_M_72 : VL R_M 72 y_M_whoseIs c_M_whoseIs 3 (some .int) 1 := ⟨tb4 219 (by decide +kernel) (by decide +kernel), tb4 221 (by decide +kernel) (by decide +kernel), tbp 14 (by decide +kernel), tb1 12 (by decide +kernel) (by decide +kernel), k_M_whoseIs, by decide, by decide, by decide +kernel, by decide⟩
theorem cz_M_72 {x : Cx} {g : Gv} {cc : ByteArray} {nL d pc : Nat} {ret : Option FieldType} {ρ : Option Value × Sg} {L : List (Nat × Value)} {st : List Value} {σ : Sg} (hc : Zc x g cc R_M nL ret d) (hd : decode cc pc = .ok (.invokevirtual 72, 3)) (hdd : 5 ≤ d) {x1 : Int32} {v : Int32} {σ1 : Sg} (hf : f_M_whoseIs x1 σ = some (v, σ1)) (hst : (st.map (fun v => v.category)).sum ≤ 8) (k : Z x g nL ρ (pc + 3) L (.int v :: st) σ1) : Z x g nL ρ pc L (.int x1 :: .ref (gAd g (6, 0, 0)) :: st) σ := z_callV (ci := 11) (As := [.int x1]) hc hd vl_M_72 hdd (6, 0, 0) (dm_M) rfl rfl (ok_M_whoseIs g x1 σ (v, σ1) hf) rfl rfl hst rfl k
def b_M_yardsOf_4 (x1 : Int32) (x2 : Int32) (x3 : Int32) (σ : Sg) : Option ((Int32 × Int32 × Sg) ⊕ (Int32 × Sg)) :=
  (if (iI 40) ≤ x3 then some (.inr (x2, σ)) else b2 (f_M_whoseIs x3 σ) (fun v1 σ2 => (if v1 = x1 then some (.inl (x2 + (iI 1), x3 + (iI 1), σ2)) else some (.inl (x2 + (iI 0), x3 + (iI 1), σ2)))))
theorem sb_M_yardsOf_4 {x : Cx} {g : Gv} {ρ : Option Value × Sg} (hc : Zc x g c_M_yardsOf R_M 4 (some .int) 5) (x1 : Int32) (x2 : Int32) (x3 : Int32) (σ : Sg) (r : (Int32 × Int32 × Sg) ⊕ (Int32 × Sg)) (hf : b_M_yardsOf_4 x1 x2 x3 σ = some r) (hi : ∀ a', r = .inl a' → Z x g 4 ρ 4 [(0, .ref (gAd g (6, 0, 0))), (1, .int x1), (2, .int a'.1), (3, .int a'.2.1)] [] a'.2.2) (he0 : ∀ b, r = .inr b → Z x g 4 ρ 33 [(2, .int b.1)] [] b.2) : Z x g 4 ρ 4 [(0, .ref (gAd g (6, 0, 0))), (1, .int x1), (2, .int x2), (3, .int x3)] [] σ := by
  unfold b_M_yardsOf_4 at hf
  refine z_iload_n hc d_M_yardsOf_4 3 rfl ?_
  refine z_bipush (v := (iI 40)) hc d_M_yardsOf_5 (by decide) ?_
  refine z_icmp_ge (tgt := 33) hc d_M_yardsOf_7 (by decide) (fun hq => ?_) (fun hq => ?_)
  · have hf := ifp hq hf
    refine z_sub [2] (L' := [(2, .int x2)]) rfl ?_
    exact he0 (x2, σ) (Option.some.inj hf).symm
  · have hf := ifn hq hf
    refine z_iload_n hc d_M_yardsOf_10 2 rfl ?_
    refine z_aload_n hc d_M_yardsOf_11 0 rfl ?_
    refine z_iload_n hc d_M_yardsOf_12 3 rfl ?_
    obtain ⟨v1, σ2, h3, hf⟩ := bd2 hf
    refine cz_M_72 hc d_M_yardsOf_13 (by decide)  h3 (Nat.le_of_ble_eq_true rfl) ?_
    refine z_iload_n hc d_M_yardsOf_16 1 rfl ?_
    refine z_icmp_ne (tgt := 24) hc d_M_yardsOf_17 (by decide) (fun hq => ?_) (fun hq => ?_)
    · have hf := ifn hq hf
      refine z_iconst (v := (iI 0)) hc d_M_yardsOf_24 (by decide) ?_
      refine z_iadd hc d_M_yardsOf_25 ?_
      refine z_istore_n (L' := [(2, .int (x2 + (iI 0))), (0, .ref (gAd g (6, 0, 0))), (1, .int x1), (3, .int x3)]) hc d_M_yardsOf_26 (by decide) rfl ?_
      refine z_iinc (v := x3 + (iI 1)) (L' := [(3, .int (x3 + (iI 1))), (2, .int (x2 + (iI 0))), (0, .ref (gAd g (6, 0, 0))), (1, .int x1)]) hc d_M_yardsOf_27 3 rfl rfl (by decide) rfl ?_
      refine z_goto (tgt := 4) hc d_M_yardsOf_30 (by decide) ?_
      refine z_sub [2, 3, 1, 0] (L' := [(0, .ref (gAd g (6, 0, 0))), (1, .int x1), (2, .int (x2 + (iI 0))), (3, .int (x3 + (iI 1)))]) rfl ?_
      exact hi (x2 + (iI 0), x3 + (iI 1), σ2) (Option.some.inj hf).symm
    · have hf := ifp hq hf
      refine z_iconst (v := (iI 1)) hc d_M_yardsOf_20 (by decide) ?_
      refine z_goto (tgt := 25) hc d_M_yardsOf_21 (by decide) ?_
      refine z_iadd hc d_M_yardsOf_25 ?_
      refine z_istore_n (L' := [(2, .int (x2 + (iI 1))), (0, .ref (gAd g (6, 0, 0))), (1, .int x1), (3, .int x3)]) hc d_M_yardsOf_26 (by decide) rfl ?_
      refine z_iinc (v := x3 + (iI 1)) (L' := [(3, .int (x3 + (iI 1))), (2, .int (x2 + (iI 1))), (0, .ref (gAd g (6, 0, 0))), (1, .int x1)]) hc d_M_yardsOf_27 3 rfl rfl (by decide) rfl ?_
      refine z_goto (tgt := 4) hc d_M_yardsOf_30 (by decide) ?_
      refine z_sub [2, 3, 1, 0] (L' := [(0, .ref (gAd g (6, 0, 0))), (1, .int x1), (2, .int (x2 + (iI 1))), (3, .int (x3 + (iI 1)))]) rfl ?_
      exact hi (x2 + (iI 1), x3 + (iI 1), σ2) (Option.some.inj hf).symm
def f_M_yardsOf (x1 : Int32) (σ : Sg) : Option (Int32 × Sg) :=
  Option.bind (lp (fun a => b_M_yardsOf_4 x1 a.1 a.2.1 a.2.2) FU ((iI 0), (iI 0), σ)) (fun b7 => some (b7.1, b7.2))
theorem ok_M_yardsOf (g : Gv) (x1 : Int32) (σ : Sg) (r : Int32 × Sg) (hf : f_M_yardsOf x1 σ = some r) : Ok g y_M_yardsOf c_M_yardsOf 4 (some .int) 5 [.ref (gAd g (6, 0, 0)), .int x1] σ (some (.int r.1), r.2) := by
  unfold f_M_yardsOf at hf
  refine Ok.of [(0, .ref (gAd g (6, 0, 0))), (1, .int x1)] (by decide) (Nat.le_of_ble_eq_true rfl) rfl ?_
  intro x hc
  have hc : Zc x g c_M_yardsOf R_M 4 (some .int) 5 := hc
  obtain ⟨ρ, hρ⟩ : ∃ ρ : Option Value × Sg, ρ = (some (.int r.1), r.2) := ⟨_, rfl⟩
  rw [← hρ]
  refine z_iconst (v := (iI 0)) hc d_M_yardsOf_0 (by decide) ?_
  refine z_istore_n (L' := [(2, .int (iI 0)), (0, .ref (gAd g (6, 0, 0))), (1, .int x1)]) hc d_M_yardsOf_1 (by decide) rfl ?_
  refine z_iconst (v := (iI 0)) hc d_M_yardsOf_2 (by decide) ?_
  refine z_istore_n (L' := [(3, .int (iI 0)), (2, .int (iI 0)), (0, .ref (gAd g (6, 0, 0))), (1, .int x1)]) hc d_M_yardsOf_3 (by decide) rfl ?_
  refine z_sub [2, 3, 1, 0] (L' := [(0, .ref (gAd g (6, 0, 0))), (1, .int x1), (2, .int (iI 0)), (3, .int (iI 0))]) rfl ?_
  obtain ⟨⟨y5, σ6⟩, hl8, hf⟩ := bd hf
  try dsimp only at hf
  refine lp_walk (α := (Int32 × Int32 × Sg)) (β := (Int32 × Sg)) (body := (fun a : (Int32 × Int32 × Sg) => b_M_yardsOf_4 x1 a.1 a.2.1 a.2.2)) (In := (fun a : (Int32 × Int32 × Sg) => Z x g 4 ρ 4 [(0, .ref (gAd g (6, 0, 0))), (1, .int x1), (2, .int a.1), (3, .int a.2.1)] [] a.2.2)) (Out := (fun b => Z x g 4 ρ 33 [(2, .int b.1)] [] b.2)) (fun a r hb hi ho => sb_M_yardsOf_4 hc x1  a.1 a.2.1 a.2.2 r hb hi (fun b e => ho _ e)) FU ((iI 0), (iI 0), σ) _ hl8 ?_
  dsimp only
  refine z_iload_n hc d_M_yardsOf_33 0 rfl ?_
  exact z_iret hc d_M_yardsOf_34 (rI hf hρ)
def b_M_rolledOut_4 (x1 : Int32) (x2 : Int32) (σ : Sg) : Option ((Int32 × Int32 × Sg) ⊕ (Int32 × Sg)) :=
  Option.bind (rd (iI 2) 66) (fun j1 => (if (σ.1 20 0 0 j1) ≤ x2 then some (.inr (x1, σ)) else b2 (f_M_get x2 (iI 5) σ) (fun v3 σ4 => (if v3 < (iI 0) then some (.inl (x1 ||| (iI 0), x2 + (iI 1), σ4)) else some (.inl (x1 ||| ((iI 1) <<< (x2 &&& 31)), x2 + (iI 1), σ4))))))
theorem sb_M_rolledOut_4 {x : Cx} {g : Gv} {ρ : Option Value × Sg} (hc : Zc x g c_M_rolledOut R_M 3 (some .int) 1) (x1 : Int32) (x2 : Int32) (σ : Sg) (r : (Int32 × Int32 × Sg) ⊕ (Int32 × Sg)) (hf : b_M_rolledOut_4 x1 x2 σ = some r) (hi : ∀ a', r = .inl a' → Z x g 3 ρ 4 [(0, .ref (gAd g (6, 0, 0))), (1, .int a'.1), (2, .int a'.2.1)] [] a'.2.2) (he0 : ∀ b, r = .inr b → Z x g 3 ρ 39 [(1, .int b.1)] [] b.2) : Z x g 3 ρ 4 [(0, .ref (gAd g (6, 0, 0))), (1, .int x1), (2, .int x2)] [] σ := by
  unfold b_M_rolledOut_4 at hf
  refine z_iload_n hc d_M_rolledOut_4 2 rfl ?_
  refine z_aload_n hc d_M_rolledOut_5 0 rfl ?_
  refine gf_M_9 hc d_M_rolledOut_6  ?_
  refine z_iconst (v := (iI 2)) hc d_M_rolledOut_9 (by decide) ?_
  obtain ⟨j1, hj2, hf⟩ := bd hf
  refine ald_ms hc d_M_rolledOut_10  hj2 ?_
  refine z_icmp_ge (tgt := 39) hc d_M_rolledOut_11 (by decide) (fun hq => ?_) (fun hq => ?_)
  · have hf := ifp hq hf
    refine z_sub [1] (L' := [(1, .int x1)]) rfl ?_
    exact he0 (x1, σ) (Option.some.inj hf).symm
  · have hf := ifn hq hf
    refine z_iload_n hc d_M_rolledOut_14 1 rfl ?_
    refine z_aload_n hc d_M_rolledOut_15 0 rfl ?_
    refine z_iload_n hc d_M_rolledOut_16 2 rfl ?_
    refine z_iconst (v := (iI 5)) hc d_M_rolledOut_17 (by decide) ?_
    obtain ⟨v3, σ4, h5, hf⟩ := bd2 hf
    refine cz_M_53 hc d_M_rolledOut_18 (by decide)  h5 (Nat.le_of_ble_eq_true rfl) ?_
    refine z_if_lt (tgt := 30) hc d_M_rolledOut_21 (by decide) (fun hq => ?_) (fun hq => ?_)
    · have hf := ifp hq hf
      refine z_iconst (v := (iI 0)) hc d_M_rolledOut_30 (by decide) ?_
      refine z_ior hc d_M_rolledOut_31 ?_
      refine z_istore_n (L' := [(1, .int (x1 ||| (iI 0))), (0, .ref (gAd g (6, 0, 0))), (2, .int x2)]) hc d_M_rolledOut_32 (by decide) rfl ?_
      refine z_iinc (v := x2 + (iI 1)) (L' := [(2, .int (x2 + (iI 1))), (1, .int (x1 ||| (iI 0))), (0, .ref (gAd g (6, 0, 0)))]) hc d_M_rolledOut_33 2 rfl rfl (by decide) rfl ?_
      refine z_goto (tgt := 4) hc d_M_rolledOut_36 (by decide) ?_
      refine z_sub [2, 1, 0] (L' := [(0, .ref (gAd g (6, 0, 0))), (1, .int (x1 ||| (iI 0))), (2, .int (x2 + (iI 1)))]) rfl ?_
      exact hi (x1 ||| (iI 0), x2 + (iI 1), σ4) (Option.some.inj hf).symm
    · have hf := ifn hq hf
      refine z_iconst (v := (iI 1)) hc d_M_rolledOut_24 (by decide) ?_
      refine z_iload_n hc d_M_rolledOut_25 2 rfl ?_
      refine z_ishl hc d_M_rolledOut_26 ?_
      refine z_goto (tgt := 31) hc d_M_rolledOut_27 (by decide) ?_
      refine z_ior hc d_M_rolledOut_31 ?_
      refine z_istore_n (L' := [(1, .int (x1 ||| ((iI 1) <<< (x2 &&& 31)))), (0, .ref (gAd g (6, 0, 0))), (2, .int x2)]) hc d_M_rolledOut_32 (by decide) rfl ?_
      refine z_iinc (v := x2 + (iI 1)) (L' := [(2, .int (x2 + (iI 1))), (1, .int (x1 ||| ((iI 1) <<< (x2 &&& 31)))), (0, .ref (gAd g (6, 0, 0)))]) hc d_M_rolledOut_33 2 rfl rfl (by decide) rfl ?_
      refine z_goto (tgt := 4) hc d_M_rolledOut_36 (by decide) ?_
      refine z_sub [2, 1, 0] (L' := [(0, .ref (gAd g (6, 0, 0))), (1, .int (x1 ||| ((iI 1) <<< (x2 &&& 31)))), (2, .int (x2 + (iI 1)))]) rfl ?_
      exact hi (x1 ||| ((iI 1) <<< (x2 &&& 31)), x2 + (iI 1), σ4) (Option.some.inj hf).symm
def f_M_rolledOut (σ : Sg) : Option (Int32 × Sg) :=
  Option.bind (lp (fun a => b_M_rolledOut_4  a.1 a.2.1 a.2.2) FU ((iI 0), (iI 0), σ)) (fun b9 => some (b9.1, b9.2))
theorem ok_M_rolledOut (g : Gv) (σ : Sg) (r : Int32 × Sg) (hf : f_M_rolledOut σ = some r) : Ok g y_M_rolledOut c_M_rolledOut 3 (some .int) 1 [.ref (gAd g (6, 0, 0))] σ (some (.int r.1), r.2) := by
  unfold f_M_rolledOut at hf
  refine Ok.of [(0, .ref (gAd g (6, 0, 0)))] (by decide) (Nat.le_of_ble_eq_true rfl) rfl ?_
  intro x hc
  have hc : Zc x g c_M_rolledOut R_M 3 (some .int) 1 := hc
  obtain ⟨ρ, hρ⟩ : ∃ ρ : Option Value × Sg, ρ = (some (.int r.1), r.2) := ⟨_, rfl⟩
  rw [← hρ]
  refine z_iconst (v := (iI 0)) hc d_M_rolledOut_0 (by decide) ?_
  refine z_istore_n (L' := [(1, .int (iI 0)), (0, .ref (gAd g (6, 0, 0)))]) hc d_M_rolledOut_1 (by decide) rfl ?_
  refine z_iconst (v := (iI 0)) hc d_M_rolledOut_2 (by decide) ?_
  refine z_istore_n (L' := [(2, .int (iI 0)), (1, .int (iI 0)), (0, .ref (gAd g (6, 0, 0)))]) hc d_M_rolledOut_3 (by decide) rfl ?_
  refine z_sub [2, 1, 0] (L' := [(0, .ref (gAd g (6, 0, 0))), (1, .int (iI 0)), (2, .int (iI 0))]) rfl ?_
  obtain ⟨⟨y7, σ8⟩, hl10, hf⟩ := bd hf
  try dsimp only at hf
  refine lp_walk (α := (Int32 × Int32 × Sg)) (β := (Int32 × Sg)) (body := (fun a : (Int32 × Int32 × Sg) => b_M_rolledOut_4  a.1 a.2.1 a.2.2)) (In := (fun a : (Int32 × Int32 × Sg) => Z x g 3 ρ 4 [(0, .ref (gAd g (6, 0, 0))), (1, .int a.1), (2, .int a.2.1)] [] a.2.2)) (Out := (fun b => Z x g 3 ρ 39 [(1, .int b.1)] [] b.2)) (fun a r hb hi ho => sb_M_rolledOut_4 hc   a.1 a.2.1 a.2.2 r hb hi (fun b e => ho _ e)) FU ((iI 0), (iI 0), σ) _ hl10 ?_
  dsimp only
  refine z_iload_n hc d_M_rolledOut_39 0 rfl ?_
  exact z_iret hc d_M_rolledOut_40 (rI hf hρ)
def b_M_sumOf_4 (x1 : Int32) (x2 : Int32) (x3 : Int32) (σ : Sg) : Option ((Int32 × Int32 × Sg) ⊕ (Int32 × Sg)) :=
  Option.bind (rd (iI 2) 66) (fun j1 => (if (σ.1 20 0 0 j1) ≤ x3 then some (.inr (x2, σ)) else b2 (f_M_get x3 x1 σ) (fun v3 σ4 => some (.inl (x2 + v3, x3 + (iI 1), σ4)))))
theorem sb_M_sumOf_4 {x : Cx} {g : Gv} {ρ : Option Value × Sg} (hc : Zc x g c_M_sumOf R_M 4 (some .int) 1) (x1 : Int32) (x2 : Int32) (x3 : Int32) (σ : Sg) (r : (Int32 × Int32 × Sg) ⊕ (Int32 × Sg)) (hf : b_M_sumOf_4 x1 x2 x3 σ = some r) (hi : ∀ a', r = .inl a' → Z x g 4 ρ 4 [(0, .ref (gAd g (6, 0, 0))), (1, .int x1), (2, .int a'.1), (3, .int a'.2.1)] [] a'.2.2) (he0 : ∀ b, r = .inr b → Z x g 4 ρ 29 [(2, .int b.1)] [] b.2) : Z x g 4 ρ 4 [(0, .ref (gAd g (6, 0, 0))), (1, .int x1), (2, .int x2), (3, .int x3)] [] σ := by
  unfold b_M_sumOf_4 at hf
  refine z_iload_n hc d_M_sumOf_4 3 rfl ?_
  refine z_aload_n hc d_M_sumOf_5 0 rfl ?_
  refine gf_M_9 hc d_M_sumOf_6  ?_
  refine z_iconst (v := (iI 2)) hc d_M_sumOf_9 (by decide) ?_
  obtain ⟨j1, hj2, hf⟩ := bd hf
  refine ald_ms hc d_M_sumOf_10  hj2 ?_
  refine z_icmp_ge (tgt := 29) hc d_M_sumOf_11 (by decide) (fun hq => ?_) (fun hq => ?_)
  · have hf := ifp hq hf
    refine z_sub [2] (L' := [(2, .int x2)]) rfl ?_
    exact he0 (x2, σ) (Option.some.inj hf).symm
  · have hf := ifn hq hf
    refine z_iload_n hc d_M_sumOf_14 2 rfl ?_
    refine z_aload_n hc d_M_sumOf_15 0 rfl ?_
    refine z_iload_n hc d_M_sumOf_16 3 rfl ?_
    refine z_iload_n hc d_M_sumOf_17 1 rfl ?_
    obtain ⟨v3, σ4, h5, hf⟩ := bd2 hf
    refine cz_M_53 hc d_M_sumOf_18 (by decide)  h5 (Nat.le_of_ble_eq_true rfl) ?_
    refine z_iadd hc d_M_sumOf_21 ?_
    refine z_istore_n (L' := [(2, .int (x2 + v3)), (0, .ref (gAd g (6, 0, 0))), (1, .int x1), (3, .int x3)]) hc d_M_sumOf_22 (by decide) rfl ?_
    refine z_iinc (v := x3 + (iI 1)) (L' := [(3, .int (x3 + (iI 1))), (2, .int (x2 + v3)), (0, .ref (gAd g (6, 0, 0))), (1, .int x1)]) hc d_M_sumOf_23 3 rfl rfl (by decide) rfl ?_
    refine z_goto (tgt := 4) hc d_M_sumOf_26 (by decide) ?_
    refine z_sub [2, 3, 1, 0] (L' := [(0, .ref (gAd g (6, 0, 0))), (1, .int x1), (2, .int (x2 + v3)), (3, .int (x3 + (iI 1)))]) rfl ?_
    exact hi (x2 + v3, x3 + (iI 1), σ4) (Option.some.inj hf).symm
def f_M_sumOf (x1 : Int32) (σ : Sg) : Option (Int32 × Sg) :=
  Option.bind (lp (fun a => b_M_sumOf_4 x1 a.1 a.2.1 a.2.2) FU ((iI 0), (iI 0), σ)) (fun b9 => some (b9.1, b9.2))
theorem ok_M_sumOf (g : Gv) (x1 : Int32) (σ : Sg) (r : Int32 × Sg) (hf : f_M_sumOf x1 σ = some r) : Ok g y_M_sumOf c_M_sumOf 4 (some .int) 1 [.ref (gAd g (6, 0, 0)), .int x1] σ (some (.int r.1), r.2) := by
  unfold f_M_sumOf at hf
  refine Ok.of [(0, .ref (gAd g (6, 0, 0))), (1, .int x1)] (by decide) (Nat.le_of_ble_eq_true rfl) rfl ?_
  intro x hc
  have hc : Zc x g c_M_sumOf R_M 4 (some .int) 1 := hc
  obtain ⟨ρ, hρ⟩ : ∃ ρ : Option Value × Sg, ρ = (some (.int r.1), r.2) := ⟨_, rfl⟩
  rw [← hρ]
  refine z_iconst (v := (iI 0)) hc d_M_sumOf_0 (by decide) ?_
  refine z_istore_n (L' := [(2, .int (iI 0)), (0, .ref (gAd g (6, 0, 0))), (1, .int x1)]) hc d_M_sumOf_1 (by decide) rfl ?_
  refine z_iconst (v := (iI 0)) hc d_M_sumOf_2 (by decide) ?_
  refine z_istore_n (L' := [(3, .int (iI 0)), (2, .int (iI 0)), (0, .ref (gAd g (6, 0, 0))), (1, .int x1)]) hc d_M_sumOf_3 (by decide) rfl ?_
  refine z_sub [2, 3, 1, 0] (L' := [(0, .ref (gAd g (6, 0, 0))), (1, .int x1), (2, .int (iI 0)), (3, .int (iI 0))]) rfl ?_
  obtain ⟨⟨y7, σ8⟩, hl10, hf⟩ := bd hf
  try dsimp only at hf
  refine lp_walk (α := (Int32 × Int32 × Sg)) (β := (Int32 × Sg)) (body := (fun a : (Int32 × Int32 × Sg) => b_M_sumOf_4 x1 a.1 a.2.1 a.2.2)) (In := (fun a : (Int32 × Int32 × Sg) => Z x g 4 ρ 4 [(0, .ref (gAd g (6, 0, 0))), (1, .int x1), (2, .int a.1), (3, .int a.2.1)] [] a.2.2)) (Out := (fun b => Z x g 4 ρ 29 [(2, .int b.1)] [] b.2)) (fun a r hb hi ho => sb_M_sumOf_4 hc x1  a.1 a.2.1 a.2.2 r hb hi (fun b e => ho _ e)) FU ((iI 0), (iI 0), σ) _ hl10 ?_
  dsimp only
  refine z_iload_n hc d_M_sumOf_29 0 rfl ?_
  exact z_iret hc d_M_sumOf_30 (rI hf hρ)
theorem vl_M_82 : VL R_M 82 y_M_breedsOf c_M_breedsOf 3 (some .int) 1 := ⟨tb5 43 (by decide +kernel) (by decide +kernel), tb5 45 (by decide +kernel) (by decide +kernel), tbp 24 (by decide +kernel), tb1 12 (by decide +kernel) (by decide +kernel), k_M_breedsOf, by decide, by decide, by decide +kernel, by decide⟩
theorem cz_M_82 {x : Cx} {g : Gv} {cc : ByteArray} {nL d pc : Nat} {ret : Option FieldType} {ρ : Option Value × Sg} {L : List (Nat × Value)} {st : List Value} {σ : Sg} (hc : Zc x g cc R_M nL ret d) (hd : decode cc pc = .ok (.invokevirtual 82, 3)) (hdd : 2 ≤ d) {x1 : Int32} {v : Int32} {σ1 : Sg} (hf : f_M_breedsOf x1 σ = some (v, σ1)) (hst : (st.map (fun v => v.category)).sum ≤ 8) (k : Z x g nL ρ (pc + 3) L (.int v :: st) σ1) : Z x g nL ρ pc L (.int x1 :: .ref (gAd g (6, 0, 0)) :: st) σ := z_callV (ci := 11) (As := [.int x1]) hc hd vl_M_82 hdd (6, 0, 0) (dm_M) rfl rfl (ok_M_breedsOf g x1 σ (v, σ1) hf) rfl rfl hst rfl k
theorem vl_M_85 : SL R_M 85 y_M_less c_M_less 2 (some .int) 2 := ⟨tb5 72 (by decide +kernel) (by decide +kernel), tb5 73 (by decide +kernel) (by decide +kernel), tb1 12 (by decide +kernel) (by decide +kernel), k_M_less, by decide, by decide, by decide +kernel, by decide⟩
theorem cz_M_85 {x : Cx} {g : Gv} {cc : ByteArray} {nL d pc : Nat} {ret : Option FieldType} {ρ : Option Value × Sg} {L : List (Nat × Value)} {st : List Value} {σ : Sg} (hc : Zc x g cc R_M nL ret d) (hd : decode cc pc = .ok (.invokestatic 85, 3)) (hdd : 1 ≤ d) {x0 : Int32} {x1 : Int32} {v : Int32} {σ1 : Sg} (hf : f_M_less x0 x1 σ = some (v, σ1)) (hst : (st.map (fun v => v.category)).sum ≤ 8) (k : Z x g nL ρ (pc + 3) L (.int v :: st) σ1) : Z x g nL ρ pc L (.int x1 :: .int x0 :: st) σ := z_callS (As := [.int x0, .int x1]) hc hd vl_M_85 hdd (ok_M_less g x0 x1 σ (v, σ1) hf) rfl rfl hst rfl k
theorem vl_M_78 : VL R_M 78 y_M_puts c_M_puts 4 none 3 := ⟨tb5 27 (by decide +kernel) (by decide +kernel), tb5 29 (by decide +kernel) (by decide +kernel), tbp 21 (by decide +kernel), tb1 12 (by decide +kernel) (by decide +kernel), k_M_puts, by decide, by decide, by decide +kernel, by decide⟩
theorem cz_M_78 {x : Cx} {g : Gv} {cc : ByteArray} {nL d pc : Nat} {ret : Option FieldType} {ρ : Option Value × Sg} {L : List (Nat × Value)} {st : List Value} {σ : Sg} (hc : Zc x g cc R_M nL ret d) (hd : decode cc pc = .ok (.invokevirtual 78, 3)) (hdd : 1 ≤ d) {x1 : Int32} {x2 : Int32} {x3 : Int32} {v : Unit} {σ1 : Sg} (hf : f_M_puts x1 x2 x3 σ = some (v, σ1)) (hst : (st.map (fun v => v.category)).sum ≤ 8) (k : Z x g nL ρ (pc + 3) L (st) σ1) : Z x g nL ρ pc L (.int x3 :: .int x2 :: .int x1 :: .ref (gAd g (6, 0, 0)) :: st) σ := z_callV (ci := 11) (As := [.int x1, .int x2, .int x3]) hc hd vl_M_78 hdd (6, 0, 0) (dm_M) rfl rfl (ok_M_puts g x1 x2 x3 σ (v, σ1) hf) rfl rfl hst rfl k
theorem vl_M_75 : VL R_M 75 y_M_wearsOf c_M_wearsOf 3 (some .int) 1 := ⟨tb5 39 (by decide +kernel) (by decide +kernel), tb5 41 (by decide +kernel) (by decide +kernel), tbp 23 (by decide +kernel), tb1 12 (by decide +kernel) (by decide +kernel), k_M_wearsOf, by decide, by decide, by decide +kernel, by decide⟩
theorem cz_M_75 {x : Cx} {g : Gv} {cc : ByteArray} {nL d pc : Nat} {ret : Option FieldType} {ρ : Option Value × Sg} {L : List (Nat × Value)} {st : List Value} {σ : Sg} (hc : Zc x g cc R_M nL ret d) (hd : decode cc pc = .ok (.invokevirtual 75, 3)) (hdd : 2 ≤ d) {x1 : Int32} {v : Int32} {σ1 : Sg} (hf : f_M_wearsOf x1 σ = some (v, σ1)) (hst : (st.map (fun v => v.category)).sum ≤ 8) (k : Z x g nL ρ (pc + 3) L (.int v :: st) σ1) : Z x g nL ρ pc L (.int x1 :: .ref (gAd g (6, 0, 0)) :: st) σ := z_callV (ci := 11) (As := [.int x1]) hc hd vl_M_75 hdd (6, 0, 0) (dm_M) rfl rfl (ok_M_wearsOf g x1 σ (v, σ1) hf) rfl rfl hst rfl k
def j_M_ages_109 (xs0 : Int32) (xs1 : Int32) (xs2 : Int32) (σ : Sg) : Option (Unit × Sg) :=
  b2 (f_M_puts xs2 xs1 xs0 σ) (fun v22 σ23 => some ((), σ23))
theorem sj_M_ages_109 {x : Cx} {g : Gv} {ρ : Option Value × Sg} (hc : Zc x g c_M_ages R_M 3 none 2) (xs0 : Int32) (xs1 : Int32) (xs2 : Int32) (σ : Sg) (r : Unit × Sg) (hf : j_M_ages_109 xs0 xs1 xs2 σ = some r) (hρ : ρ = (none, r.2)) : Z x g 3 ρ 109 [] [.int xs0, .int xs1, .int xs2, .ref (gAd g (6, 0, 0))] σ := by
  unfold j_M_ages_109 at hf
  obtain ⟨v22, σ23, h24, hf⟩ := bd2 hf
  refine cz_M_78 hc d_M_ages_109 (by decide)  h24 (Nat.le_of_ble_eq_true rfl) ?_
  exact z_vret hc d_M_ages_112 (rV hf hρ)
def j_M_ages_54 (xs0 : Int32) (xs1 : Int32) (xs2 : Int32) (σ : Sg) : Option (Unit × Sg) :=
  b2 (f_M_puts xs2 xs1 xs0 σ) (fun v37 σ38 => some ((), σ38))
theorem sj_M_ages_54 {x : Cx} {g : Gv} {ρ : Option Value × Sg} (hc : Zc x g c_M_ages R_M 3 none 2) (xs0 : Int32) (xs1 : Int32) (xs2 : Int32) (σ : Sg) (r : Unit × Sg) (hf : j_M_ages_54 xs0 xs1 xs2 σ = some r) (hρ : ρ = (none, r.2)) : Z x g 3 ρ 54 [] [.int xs0, .int xs1, .int xs2, .ref (gAd g (6, 0, 0))] σ := by
  unfold j_M_ages_54 at hf
  obtain ⟨v37, σ38, h39, hf⟩ := bd2 hf
  refine cz_M_78 hc d_M_ages_54 (by decide)  h39 (Nat.le_of_ble_eq_true rfl) ?_
  exact z_vret hc d_M_ages_57 (rV hf hρ)
def j_M_ages_34 (x1 : Int32) (x2 : Int32) (xs0 : Int32) (xs1 : Int32) (xs2 : Int32) (σ : Sg) : Option (Unit × Sg) :=
  b2 (f_M_puts xs2 xs1 xs0 σ) (fun v31 σ32 => (if (iI 0) < x2 then b2 (f_M_get x1 (iI 5) σ32) (fun v34 σ35 => j_M_ages_54  v34 (iI 5) x1 σ35) else j_M_ages_54  (iI (-1)) (iI 5) x1 σ32))
theorem sj_M_ages_34 {x : Cx} {g : Gv} {ρ : Option Value × Sg} (hc : Zc x g c_M_ages R_M 3 none 2) (x1 : Int32) (x2 : Int32) (xs0 : Int32) (xs1 : Int32) (xs2 : Int32) (σ : Sg) (r : Unit × Sg) (hf : j_M_ages_34 x1 x2 xs0 xs1 xs2 σ = some r) (hρ : ρ = (none, r.2)) : Z x g 3 ρ 34 [(0, .ref (gAd g (6, 0, 0))), (1, .int x1), (2, .int x2)] [.int xs0, .int xs1, .int xs2, .ref (gAd g (6, 0, 0))] σ := by
  unfold j_M_ages_34 at hf
  obtain ⟨v31, σ32, h33, hf⟩ := bd2 hf
  refine cz_M_78 hc d_M_ages_34 (by decide)  h33 (Nat.le_of_ble_eq_true rfl) ?_
  refine z_aload_n hc d_M_ages_37 0 rfl ?_
  refine z_iload_n hc d_M_ages_38 1 rfl ?_
  refine z_iconst (v := (iI 5)) hc d_M_ages_39 (by decide) ?_
  refine z_iload_n hc d_M_ages_40 2 rfl ?_
  refine z_if_gt (tgt := 48) hc d_M_ages_41 (by decide) (fun hq => ?_) (fun hq => ?_)
  · have hf := ifp hq hf
    refine z_aload_n hc d_M_ages_48 0 rfl ?_
    refine z_iload_n hc d_M_ages_49 1 rfl ?_
    refine z_iconst (v := (iI 5)) hc d_M_ages_50 (by decide) ?_
    obtain ⟨v34, σ35, h36, hf⟩ := bd2 hf
    refine cz_M_53 hc d_M_ages_51 (by decide)  h36 (Nat.le_of_ble_eq_true rfl) ?_
    refine z_sub [] (L' := []) rfl ?_
    exact sj_M_ages_54 hc  v34 (iI 5) x1   σ35 _ hf hρ
  · have hf := ifn hq hf
    refine z_iconst (v := (iI (-1))) hc d_M_ages_44 (by decide) ?_
    refine z_goto (tgt := 54) hc d_M_ages_45 (by decide) ?_
    refine z_sub [] (L' := []) rfl ?_
    exact sj_M_ages_54 hc  (iI (-1)) (iI 5) x1   σ32 _ hf hρ
def f_M_ages (x1 : Int32) (σ : Sg) : Option (Unit × Sg) :=
  b2 (f_M_get x1 (iI 5) σ) (fun v1 σ2 => (if v1 < (iI 0) then b2 (f_M_get x1 (iI 4) σ2) (fun v4 σ5 => b2 (f_M_breedsOf x1 σ5) (fun v7 σ8 => b2 (f_M_less (iI 9) (v4 + v7) σ8) (fun v10 σ11 => b2 (f_M_puts x1 (iI 4) v10 σ11) (fun v13 σ14 => b2 (f_M_get x1 (iI 3) σ14) (fun v16 σ17 => b2 (f_M_get x1 (iI 4) σ17) (fun v19 σ20 => (if (iI 0) ≤ (v16 - (v19 / (iI 3))) then j_M_ages_109  (v16 - (v19 / (iI 3))) (iI 3) x1 σ20 else j_M_ages_109  (iI 0) (iI 3) x1 σ20))))))) else b2 (f_M_get x1 (iI 3) σ2) (fun v25 σ26 => b2 (f_M_wearsOf x1 σ26) (fun v28 σ29 => (if (iI 0) ≤ (v25 - v28) then j_M_ages_34 x1 (v25 - v28) (v25 - v28) (iI 3) x1 σ29 else j_M_ages_34 x1 (v25 - v28) (iI 0) (iI 3) x1 σ29)))))
theorem ok_M_ages (g : Gv) (x1 : Int32) (σ : Sg) (r : Unit × Sg) (hf : f_M_ages x1 σ = some r) : Ok g y_M_ages c_M_ages 3 none 2 [.ref (gAd g (6, 0, 0)), .int x1] σ (none, r.2) := by
  unfold f_M_ages at hf
  refine Ok.of [(0, .ref (gAd g (6, 0, 0))), (1, .int x1)] (by decide) (Nat.le_of_ble_eq_true rfl) rfl ?_
  intro x hc
  have hc : Zc x g c_M_ages R_M 3 none 2 := hc
  obtain ⟨ρ, hρ⟩ : ∃ ρ : Option Value × Sg, ρ = (none, r.2) := ⟨_, rfl⟩
  rw [← hρ]
  refine z_aload_n hc d_M_ages_0 0 rfl ?_
  refine z_iload_n hc d_M_ages_1 1 rfl ?_
  refine z_iconst (v := (iI 5)) hc d_M_ages_2 (by decide) ?_
  obtain ⟨v1, σ2, h3, hf⟩ := bd2 hf
  refine cz_M_53 hc d_M_ages_3 (by decide)  h3 (Nat.le_of_ble_eq_true rfl) ?_
  refine z_if_lt (tgt := 58) hc d_M_ages_6 (by decide) (fun hq => ?_) (fun hq => ?_)
  · have hf := ifp hq hf
    refine z_aload_n hc d_M_ages_58 0 rfl ?_
    refine z_iload_n hc d_M_ages_59 1 rfl ?_
    refine z_iconst (v := (iI 4)) hc d_M_ages_60 (by decide) ?_
    refine z_bipush (v := (iI 9)) hc d_M_ages_61 (by decide) ?_
    refine z_aload_n hc d_M_ages_63 0 rfl ?_
    refine z_iload_n hc d_M_ages_64 1 rfl ?_
    refine z_iconst (v := (iI 4)) hc d_M_ages_65 (by decide) ?_
    obtain ⟨v4, σ5, h6, hf⟩ := bd2 hf
    refine cz_M_53 hc d_M_ages_66 (by decide)  h6 (Nat.le_of_ble_eq_true rfl) ?_
    refine z_aload_n hc d_M_ages_69 0 rfl ?_
    refine z_iload_n hc d_M_ages_70 1 rfl ?_
    obtain ⟨v7, σ8, h9, hf⟩ := bd2 hf
    refine cz_M_82 hc d_M_ages_71 (by decide)  h9 (Nat.le_of_ble_eq_true rfl) ?_
    refine z_iadd hc d_M_ages_74 ?_
    obtain ⟨v10, σ11, h12, hf⟩ := bd2 hf
    refine cz_M_85 hc d_M_ages_75 (by decide)  h12 (Nat.le_of_ble_eq_true rfl) ?_
    obtain ⟨v13, σ14, h15, hf⟩ := bd2 hf
    refine cz_M_78 hc d_M_ages_78 (by decide)  h15 (Nat.le_of_ble_eq_true rfl) ?_
    refine z_aload_n hc d_M_ages_81 0 rfl ?_
    refine z_iload_n hc d_M_ages_82 1 rfl ?_
    refine z_iconst (v := (iI 3)) hc d_M_ages_83 (by decide) ?_
    obtain ⟨v16, σ17, h18, hf⟩ := bd2 hf
    refine cz_M_53 hc d_M_ages_84 (by decide)  h18 (Nat.le_of_ble_eq_true rfl) ?_
    refine z_aload_n hc d_M_ages_87 0 rfl ?_
    refine z_iload_n hc d_M_ages_88 1 rfl ?_
    refine z_iconst (v := (iI 4)) hc d_M_ages_89 (by decide) ?_
    obtain ⟨v19, σ20, h21, hf⟩ := bd2 hf
    refine cz_M_53 hc d_M_ages_90 (by decide)  h21 (Nat.le_of_ble_eq_true rfl) ?_
    refine z_iconst (v := (iI 3)) hc d_M_ages_93 (by decide) ?_
    refine z_idiv hc d_M_ages_94 (by decide) ?_
    refine z_isub hc d_M_ages_95 ?_
    refine z_istore_n (L' := [(2, .int (v16 - (v19 / (iI 3)))), (0, .ref (gAd g (6, 0, 0))), (1, .int x1)]) hc d_M_ages_96 (by decide) rfl ?_
    refine z_aload_n hc d_M_ages_97 1 rfl ?_
    refine z_iload_n hc d_M_ages_98 2 rfl ?_
    refine z_iconst (v := (iI 3)) hc d_M_ages_99 (by decide) ?_
    refine z_iload_n hc d_M_ages_100 0 rfl ?_
    refine z_if_ge (tgt := 108) hc d_M_ages_101 (by decide) (fun hq => ?_) (fun hq => ?_)
    · have hf := ifp hq hf
      refine z_iload_n hc d_M_ages_108 0 rfl ?_
      refine z_sub [] (L' := []) rfl ?_
      exact sj_M_ages_109 hc  (v16 - (v19 / (iI 3))) (iI 3) x1   σ20 _ hf hρ
    · have hf := ifn hq hf
      refine z_iconst (v := (iI 0)) hc d_M_ages_104 (by decide) ?_
      refine z_goto (tgt := 109) hc d_M_ages_105 (by decide) ?_
      refine z_sub [] (L' := []) rfl ?_
      exact sj_M_ages_109 hc  (iI 0) (iI 3) x1   σ20 _ hf hρ
  · have hf := ifn hq hf
    refine z_aload_n hc d_M_ages_9 0 rfl ?_
    refine z_iload_n hc d_M_ages_10 1 rfl ?_
    refine z_iconst (v := (iI 3)) hc d_M_ages_11 (by decide) ?_
    obtain ⟨v25, σ26, h27, hf⟩ := bd2 hf
    refine cz_M_53 hc d_M_ages_12 (by decide)  h27 (Nat.le_of_ble_eq_true rfl) ?_
    refine z_aload_n hc d_M_ages_15 0 rfl ?_
    refine z_iload_n hc d_M_ages_16 1 rfl ?_
    obtain ⟨v28, σ29, h30, hf⟩ := bd2 hf
    refine cz_M_75 hc d_M_ages_17 (by decide)  h30 (Nat.le_of_ble_eq_true rfl) ?_
    refine z_isub hc d_M_ages_20 ?_
    refine z_istore_n (L' := [(2, .int (v25 - v28)), (0, .ref (gAd g (6, 0, 0))), (1, .int x1)]) hc d_M_ages_21 (by decide) rfl ?_
    refine z_aload_n hc d_M_ages_22 1 rfl ?_
    refine z_iload_n hc d_M_ages_23 2 rfl ?_
    refine z_iconst (v := (iI 3)) hc d_M_ages_24 (by decide) ?_
    refine z_iload_n hc d_M_ages_25 0 rfl ?_
    refine z_if_ge (tgt := 33) hc d_M_ages_26 (by decide) (fun hq => ?_) (fun hq => ?_)
    · have hf := ifp hq hf
      refine z_iload_n hc d_M_ages_33 0 rfl ?_
      refine z_sub [1, 2, 0] (L' := [(0, .ref (gAd g (6, 0, 0))), (1, .int x1), (2, .int (v25 - v28))]) rfl ?_
      exact sj_M_ages_34 hc x1 (v25 - v28) (v25 - v28) (iI 3) x1   σ29 _ hf hρ
    · have hf := ifn hq hf
      refine z_iconst (v := (iI 0)) hc d_M_ages_29 (by decide) ?_
      refine z_goto (tgt := 34) hc d_M_ages_30 (by decide) ?_
      refine z_sub [1, 2, 0] (L' := [(0, .ref (gAd g (6, 0, 0))), (1, .int x1), (2, .int (v25 - v28))]) rfl ?_
      exact sj_M_ages_34 hc x1 (v25 - v28) (iI 0) (iI 3) x1   σ29 _ hf hρ
theorem vl_M_88 : VL R_M 88 y_M_ages c_M_ages 3 none 1 := ⟨tb5 91 (by decide +kernel) (by decide +kernel), tb5 93 (by decide +kernel) (by decide +kernel), tbp 28 (by decide +kernel), tb1 12 (by decide +kernel) (by decide +kernel), k_M_ages, by decide, by decide, by decide +kernel, by decide⟩
theorem cz_M_88 {x : Cx} {g : Gv} {cc : ByteArray} {nL d pc : Nat} {ret : Option FieldType} {ρ : Option Value × Sg} {L : List (Nat × Value)} {st : List Value} {σ : Sg} (hc : Zc x g cc R_M nL ret d) (hd : decode cc pc = .ok (.invokevirtual 88, 3)) (hdd : 3 ≤ d) {x1 : Int32} {v : Unit} {σ1 : Sg} (hf : f_M_ages x1 σ = some (v, σ1)) (hst : (st.map (fun v => v.category)).sum ≤ 8) (k : Z x g nL ρ (pc + 3) L (st) σ1) : Z x g nL ρ pc L (.int x1 :: .ref (gAd g (6, 0, 0)) :: st) σ := z_callV (ci := 11) (As := [.int x1]) hc hd vl_M_88 hdd (6, 0, 0) (dm_M) rfl rfl (ok_M_ages g x1 σ (v, σ1) hf) rfl rfl hst rfl k
def b_M_goes_9 (x1 : Int32) (x2 : Int32) (x3 : Int32) (σ : Sg) : Option ((Int32 × Sg) ⊕ (Sg)) :=
  Option.bind (rd (iI 2) 66) (fun j1 => (if (σ.1 20 0 0 j1) ≤ x3 then some (.inr σ) else b2 (f_M_ages x3 σ) (fun v3 σ4 => some (.inl (x3 + (iI 1), σ4)))))
theorem sb_M_goes_9 {x : Cx} {g : Gv} {ρ : Option Value × Sg} (hc : Zc x g c_M_goes R_M 4 none 3) (x1 : Int32) (x2 : Int32) (x3 : Int32) (σ : Sg) (r : (Int32 × Sg) ⊕ (Sg)) (hf : b_M_goes_9 x1 x2 x3 σ = some r) (hi : ∀ a', r = .inl a' → Z x g 4 ρ 9 [(0, .ref (gAd g (6, 0, 0))), (1, .int x1), (2, .int x2), (3, .int a'.1)] [] a'.2) (he0 : ∀ b, r = .inr b → Z x g 4 ρ 30 [(0, .ref (gAd g (6, 0, 0))), (1, .int x1), (2, .int x2)] [] b) : Z x g 4 ρ 9 [(0, .ref (gAd g (6, 0, 0))), (1, .int x1), (2, .int x2), (3, .int x3)] [] σ := by
  unfold b_M_goes_9 at hf
  refine z_iload_n hc d_M_goes_9 3 rfl ?_
  refine z_aload_n hc d_M_goes_10 0 rfl ?_
  refine gf_M_9 hc d_M_goes_11  ?_
  refine z_iconst (v := (iI 2)) hc d_M_goes_14 (by decide) ?_
  obtain ⟨j1, hj2, hf⟩ := bd hf
  refine ald_ms hc d_M_goes_15  hj2 ?_
  refine z_icmp_ge (tgt := 30) hc d_M_goes_16 (by decide) (fun hq => ?_) (fun hq => ?_)
  · have hf := ifp hq hf
    refine z_sub [0, 1, 2] (L' := [(0, .ref (gAd g (6, 0, 0))), (1, .int x1), (2, .int x2)]) rfl ?_
    exact he0 σ (Option.some.inj hf).symm
  · have hf := ifn hq hf
    refine z_aload_n hc d_M_goes_19 0 rfl ?_
    refine z_iload_n hc d_M_goes_20 3 rfl ?_
    obtain ⟨v3, σ4, h5, hf⟩ := bd2 hf
    refine cz_M_88 hc d_M_goes_21 (by decide)  h5 (Nat.le_of_ble_eq_true rfl) ?_
    refine z_iinc (v := x3 + (iI 1)) (L' := [(3, .int (x3 + (iI 1))), (0, .ref (gAd g (6, 0, 0))), (1, .int x1), (2, .int x2)]) hc d_M_goes_24 3 rfl rfl (by decide) rfl ?_
    refine z_goto (tgt := 9) hc d_M_goes_27 (by decide) ?_
    refine z_sub [1, 2, 3, 0] (L' := [(0, .ref (gAd g (6, 0, 0))), (1, .int x1), (2, .int x2), (3, .int (x3 + (iI 1)))]) rfl ?_
    exact hi (x3 + (iI 1), σ4) (Option.some.inj hf).symm
def b_M_goes_2 (x1 : Int32) (x2 : Int32) (σ : Sg) : Option ((Int32 × Sg) ⊕ (Sg)) :=
  (if x1 ≤ x2 then some (.inr σ) else Option.bind (lp (fun a => b_M_goes_9 x1 x2 a.1 a.2) FU ((iI 0), σ)) (fun b12 => Option.bind (rd (iI 0) 66) (fun j8 => Option.bind (rd (iI 0) 66) (fun j10 => some (.inl (x2 + (iI 1), upI b12 20 0 0 j10 ((b12.1 20 0 0 j8) + (iI 1))))))))
theorem sb_M_goes_2 {x : Cx} {g : Gv} {ρ : Option Value × Sg} (hc : Zc x g c_M_goes R_M 4 none 3) (x1 : Int32) (x2 : Int32) (σ : Sg) (r : (Int32 × Sg) ⊕ (Sg)) (hf : b_M_goes_2 x1 x2 σ = some r) (hi : ∀ a', r = .inl a' → Z x g 4 ρ 2 [(0, .ref (gAd g (6, 0, 0))), (1, .int x1), (2, .int a'.1)] [] a'.2) (he0 : ∀ b, r = .inr b → Z x g 4 ρ 46 [] [] b) : Z x g 4 ρ 2 [(0, .ref (gAd g (6, 0, 0))), (1, .int x1), (2, .int x2)] [] σ := by
  unfold b_M_goes_2 at hf
  refine z_iload_n hc d_M_goes_2 2 rfl ?_
  refine z_iload_n hc d_M_goes_3 1 rfl ?_
  refine z_icmp_ge (tgt := 46) hc d_M_goes_4 (by decide) (fun hq => ?_) (fun hq => ?_)
  · have hf := ifp hq hf
    refine z_sub [] (L' := []) rfl ?_
    exact he0 σ (Option.some.inj hf).symm
  · have hf := ifn hq hf
    refine z_iconst (v := (iI 0)) hc d_M_goes_7 (by decide) ?_
    refine z_istore_n (L' := [(3, .int (iI 0)), (0, .ref (gAd g (6, 0, 0))), (1, .int x1), (2, .int x2)]) hc d_M_goes_8 (by decide) rfl ?_
    refine z_sub [1, 2, 3, 0] (L' := [(0, .ref (gAd g (6, 0, 0))), (1, .int x1), (2, .int x2), (3, .int (iI 0))]) rfl ?_
    obtain ⟨σ7, hl13, hf⟩ := bd hf
    try dsimp only at hf
    refine lp_walk (α := (Int32 × Sg)) (β := (Sg)) (body := (fun a : (Int32 × Sg) => b_M_goes_9 x1 x2 a.1 a.2)) (In := (fun a : (Int32 × Sg) => Z x g 4 ρ 9 [(0, .ref (gAd g (6, 0, 0))), (1, .int x1), (2, .int x2), (3, .int a.1)] [] a.2)) (Out := (fun b => Z x g 4 ρ 30 [(0, .ref (gAd g (6, 0, 0))), (1, .int x1), (2, .int x2)] [] b)) (fun a r hb hi ho => sb_M_goes_9 hc x1 x2  a.1 a.2 r hb hi (fun b e => ho _ e)) FU ((iI 0), σ) _ hl13 ?_
    refine z_aload_n hc d_M_goes_30 0 rfl ?_
    refine gf_M_9 hc d_M_goes_31  ?_
    refine z_iconst (v := (iI 0)) hc d_M_goes_34 (by decide) ?_
    refine z_dup2 hc d_M_goes_35 rfl rfl ?_
    obtain ⟨j8, hj9, hf⟩ := bd hf
    refine ald_ms hc d_M_goes_36  hj9 ?_
    refine z_iconst (v := (iI 1)) hc d_M_goes_37 (by decide) ?_
    refine z_iadd hc d_M_goes_38 ?_
    obtain ⟨j10, hj11, hf⟩ := bd hf
    refine ast_ms hc d_M_goes_39  hj11 ?_
    refine z_iinc (v := x2 + (iI 1)) (L' := [(2, .int (x2 + (iI 1))), (0, .ref (gAd g (6, 0, 0))), (1, .int x1)]) hc d_M_goes_40 2 rfl rfl (by decide) rfl ?_
    refine z_goto (tgt := 2) hc d_M_goes_43 (by decide) ?_
    refine z_sub [1, 2, 0] (L' := [(0, .ref (gAd g (6, 0, 0))), (1, .int x1), (2, .int (x2 + (iI 1)))]) rfl ?_
    exact hi (x2 + (iI 1), upI σ7 20 0 0 j10 ((σ7.1 20 0 0 j8) + (iI 1))) (Option.some.inj hf).symm
def f_M_goes (x1 : Int32) (σ : Sg) : Option (Unit × Sg) :=
  Option.bind (lp (fun a => b_M_goes_2 x1 a.1 a.2) FU ((iI 0), σ)) (fun b16 => some ((), b16))
theorem ok_M_goes (g : Gv) (x1 : Int32) (σ : Sg) (r : Unit × Sg) (hf : f_M_goes x1 σ = some r) : Ok g y_M_goes c_M_goes 4 none 3 [.ref (gAd g (6, 0, 0)), .int x1] σ (none, r.2) := by
  unfold f_M_goes at hf
  refine Ok.of [(0, .ref (gAd g (6, 0, 0))), (1, .int x1)] (by decide) (Nat.le_of_ble_eq_true rfl) rfl ?_
  intro x hc
  have hc : Zc x g c_M_goes R_M 4 none 3 := hc
  obtain ⟨ρ, hρ⟩ : ∃ ρ : Option Value × Sg, ρ = (none, r.2) := ⟨_, rfl⟩
  rw [← hρ]
  refine z_iconst (v := (iI 0)) hc d_M_goes_0 (by decide) ?_
  refine z_istore_n (L' := [(2, .int (iI 0)), (0, .ref (gAd g (6, 0, 0))), (1, .int x1)]) hc d_M_goes_1 (by decide) rfl ?_
  refine z_sub [1, 2, 0] (L' := [(0, .ref (gAd g (6, 0, 0))), (1, .int x1), (2, .int (iI 0))]) rfl ?_
  obtain ⟨σ15, hl17, hf⟩ := bd hf
  try dsimp only at hf
  refine lp_walk (α := (Int32 × Sg)) (β := (Sg)) (body := (fun a : (Int32 × Sg) => b_M_goes_2 x1 a.1 a.2)) (In := (fun a : (Int32 × Sg) => Z x g 4 ρ 2 [(0, .ref (gAd g (6, 0, 0))), (1, .int x1), (2, .int a.1)] [] a.2)) (Out := (fun b => Z x g 4 ρ 46 [] [] b)) (fun a r hb hi ho => sb_M_goes_2 hc x1  a.1 a.2 r hb hi (fun b e => ho _ e)) FU ((iI 0), σ) _ hl17 ?_
  exact z_vret hc d_M_goes_46 (rV hf hρ)
theorem vl_M_92 : VL R_M 92 y_M_no c_M_no 2 (some .int) 1 := ⟨tb4 195 (by decide +kernel) (by decide +kernel), tb4 197 (by decide +kernel) (by decide +kernel), tbp 10 (by decide +kernel), tb1 12 (by decide +kernel) (by decide +kernel), k_M_no, by decide, by decide, by decide +kernel, by decide⟩
theorem cz_M_92 {x : Cx} {g : Gv} {cc : ByteArray} {nL d pc : Nat} {ret : Option FieldType} {ρ : Option Value × Sg} {L : List (Nat × Value)} {st : List Value} {σ : Sg} (hc : Zc x g cc R_M nL ret d) (hd : decode cc pc = .ok (.invokevirtual 92, 3)) (hdd : 1 ≤ d) {x1 : Int32} {v : Int32} {σ1 : Sg} (hf : f_M_no x1 σ = some (v, σ1)) (hst : (st.map (fun v => v.category)).sum ≤ 8) (k : Z x g nL ρ (pc + 3) L (.int v :: st) σ1) : Z x g nL ρ pc L (.int x1 :: .ref (gAd g (6, 0, 0)) :: st) σ := z_callV (ci := 11) (As := [.int x1]) hc hd vl_M_92 hdd (6, 0, 0) (dm_M) rfl rfl (ok_M_no g x1 σ (v, σ1) hf) rfl rfl hst rfl k
def j_M_rain_19 (σ : Sg) : Option (Int32 × Sg) :=
  b2 (f_M_no (iI 0) σ) (fun v4 σ5 => some (v4, σ5))
theorem sj_M_rain_19 {x : Cx} {g : Gv} {ρ : Option Value × Sg} (hc : Zc x g c_M_rain R_M 4 (some .int) 1) (σ : Sg) (r : Int32 × Sg) (hf : j_M_rain_19 σ = some r) (hρ : ρ = (some (.int r.1), r.2)) : Z x g 4 ρ 19 [(0, .ref (gAd g (6, 0, 0)))] [] σ := by
  unfold j_M_rain_19 at hf
  refine z_aload_n hc d_M_rain_19 0 rfl ?_
  refine z_iconst (v := (iI 0)) hc d_M_rain_20 (by decide) ?_
  obtain ⟨v4, σ5, h6, hf⟩ := bd2 hf
  refine cz_M_92 hc d_M_rain_21 (by decide)  h6 (Nat.le_of_ble_eq_true rfl) ?_
  exact z_iret hc d_M_rain_24 (rI hf hρ)
def f_M_rain (x1 : Int32) (x2 : Int32) (σ : Sg) : Option (Int32 × Sg) :=
  b2 (f_M_in1 x1 (iI 0) (iI 6) σ) (fun v1 σ2 => (if v1 = (iI 0) then j_M_rain_19   σ2 else b2 (f_M_in1 x2 (iI 0) (iI 1) σ2) (fun v7 σ8 => (if v7 = (iI 0) then j_M_rain_19   σ8 else Option.bind (rd ((iI 3) + x1) 66) (fun j10 => Option.bind (rd ((iI 3) + x1) 66) (fun j12 => some (σ8.1 20 0 0 j10, upI σ8 20 0 0 j12 x2)))))))
theorem ok_M_rain (g : Gv) (x1 : Int32) (x2 : Int32) (σ : Sg) (r : Int32 × Sg) (hf : f_M_rain x1 x2 σ = some r) : Ok g y_M_rain c_M_rain 4 (some .int) 1 [.ref (gAd g (6, 0, 0)), .int x1, .int x2] σ (some (.int r.1), r.2) := by
  unfold f_M_rain at hf
  refine Ok.of [(0, .ref (gAd g (6, 0, 0))), (1, .int x1), (2, .int x2)] (by decide) (Nat.le_of_ble_eq_true rfl) rfl ?_
  intro x hc
  have hc : Zc x g c_M_rain R_M 4 (some .int) 1 := hc
  obtain ⟨ρ, hρ⟩ : ∃ ρ : Option Value × Sg, ρ = (some (.int r.1), r.2) := ⟨_, rfl⟩
  rw [← hρ]
  refine z_iload_n hc d_M_rain_0 1 rfl ?_
  refine z_iconst (v := (iI 0)) hc d_M_rain_1 (by decide) ?_
  refine z_bipush (v := (iI 6)) hc d_M_rain_2 (by decide) ?_
  obtain ⟨v1, σ2, h3, hf⟩ := bd2 hf
  refine cz_M_49 hc d_M_rain_4 (by decide)  h3 (Nat.le_of_ble_eq_true rfl) ?_
  refine z_if_eq (tgt := 19) hc d_M_rain_7 (by decide) (fun hq => ?_) (fun hq => ?_)
  · have hf := ifp hq hf
    refine z_sub [0] (L' := [(0, .ref (gAd g (6, 0, 0)))]) rfl ?_
    exact sj_M_rain_19 hc     σ2 _ hf hρ
  · have hf := ifn hq hf
    refine z_iload_n hc d_M_rain_10 2 rfl ?_
    refine z_iconst (v := (iI 0)) hc d_M_rain_11 (by decide) ?_
    refine z_iconst (v := (iI 1)) hc d_M_rain_12 (by decide) ?_
    obtain ⟨v7, σ8, h9, hf⟩ := bd2 hf
    refine cz_M_49 hc d_M_rain_13 (by decide)  h9 (Nat.le_of_ble_eq_true rfl) ?_
    refine z_if_ne (tgt := 25) hc d_M_rain_16 (by decide) (fun hq => ?_) (fun hq => ?_)
    · have hf := ifn hq hf
      refine z_aload_n hc d_M_rain_25 0 rfl ?_
      refine gf_M_9 hc d_M_rain_26  ?_
      refine z_iconst (v := (iI 3)) hc d_M_rain_29 (by decide) ?_
      refine z_iload_n hc d_M_rain_30 1 rfl ?_
      refine z_iadd hc d_M_rain_31 ?_
      obtain ⟨j10, hj11, hf⟩ := bd hf
      refine ald_ms hc d_M_rain_32  hj11 ?_
      refine z_istore_n (L' := [(3, .int (σ8.1 20 0 0 j10)), (0, .ref (gAd g (6, 0, 0))), (1, .int x1), (2, .int x2)]) hc d_M_rain_33 (by decide) rfl ?_
      refine z_aload_n hc d_M_rain_34 1 rfl ?_
      refine gf_M_9 hc d_M_rain_35  ?_
      refine z_iconst (v := (iI 3)) hc d_M_rain_38 (by decide) ?_
      refine z_iload_n hc d_M_rain_39 2 rfl ?_
      refine z_iadd hc d_M_rain_40 ?_
      refine z_iload_n hc d_M_rain_41 3 rfl ?_
      obtain ⟨j12, hj13, hf⟩ := bd hf
      refine ast_ms hc d_M_rain_42  hj13 ?_
      refine z_iload_n hc d_M_rain_43 0 rfl ?_
      exact z_iret hc d_M_rain_44 (rI hf hρ)
    · have hf := ifp hq hf
      refine z_sub [0] (L' := [(0, .ref (gAd g (6, 0, 0)))]) rfl ?_
      exact sj_M_rain_19 hc     σ8 _ hf hρ
theorem vl_M_95 : SL R_M 95 y_M_isYard c_M_isYard 1 (some .boolean) 1 := ⟨tb4 204 (by decide +kernel) (by decide +kernel), tb4 205 (by decide +kernel) (by decide +kernel), tb1 12 (by decide +kernel) (by decide +kernel), k_M_isYard, by decide, by decide, by decide +kernel, by decide⟩
theorem cz_M_95 {x : Cx} {g : Gv} {cc : ByteArray} {nL d pc : Nat} {ret : Option FieldType} {ρ : Option Value × Sg} {L : List (Nat × Value)} {st : List Value} {σ : Sg} (hc : Zc x g cc R_M nL ret d) (hd : decode cc pc = .ok (.invokestatic 95, 3)) (hdd : 2 ≤ d) {x0 : Int32} {v : Int32} {σ1 : Sg} (hf : f_M_isYard x0 σ = some (v, σ1)) (hst : (st.map (fun v => v.category)).sum ≤ 8) (k : Z x g nL ρ (pc + 3) L (.int v :: st) σ1) : Z x g nL ρ pc L (.int x0 :: st) σ := z_callS (As := [.int x0]) hc hd vl_M_95 hdd (ok_M_isYard g x0 σ (v, σ1) hf) rfl rfl hst rfl k
def j_M_yard_16 (σ : Sg) : Option (Int32 × Sg) :=
  b2 (f_M_no (iI 0) σ) (fun v4 σ5 => some (v4, σ5))
theorem sj_M_yard_16 {x : Cx} {g : Gv} {ρ : Option Value × Sg} (hc : Zc x g c_M_yard R_M 5 (some .int) 5) (σ : Sg) (r : Int32 × Sg) (hf : j_M_yard_16 σ = some r) (hρ : ρ = (some (.int r.1), r.2)) : Z x g 5 ρ 16 [(0, .ref (gAd g (6, 0, 0)))] [] σ := by
  unfold j_M_yard_16 at hf
  refine z_aload_n hc d_M_yard_16 0 rfl ?_
  refine z_iconst (v := (iI 0)) hc d_M_yard_17 (by decide) ?_
  obtain ⟨v4, σ5, h6, hf⟩ := bd2 hf
  refine cz_M_92 hc d_M_yard_18 (by decide)  h6 (Nat.le_of_ble_eq_true rfl) ?_
  exact z_iret hc d_M_yard_21 (rI hf hρ)
def b_M_yard_27 (x1 : Int32) (x2 : Int32) (x3 : Int32) (x4 : Int32) (σ : Sg) : Option ((Int32 × Int32 × Sg) ⊕ (Int32 × Sg)) :=
  Option.bind (rd (iI 2) 66) (fun j10 => (if (σ.1 20 0 0 j10) ≤ x4 then some (.inr (x3, σ)) else b2 (f_M_liesOn x4 x1 σ) (fun v12 σ13 => (if v12 = (iI 0) then some (.inl (x3 ||| (iI 0), x4 + (iI 1), σ13)) else some (.inl (x3 ||| ((iI 1) <<< (x4 &&& 31)), x4 + (iI 1), σ13))))))
theorem sb_M_yard_27 {x : Cx} {g : Gv} {ρ : Option Value × Sg} (hc : Zc x g c_M_yard R_M 5 (some .int) 5) (x1 : Int32) (x2 : Int32) (x3 : Int32) (x4 : Int32) (σ : Sg) (r : (Int32 × Int32 × Sg) ⊕ (Int32 × Sg)) (hf : b_M_yard_27 x1 x2 x3 x4 σ = some r) (hi : ∀ a', r = .inl a' → Z x g 5 ρ 27 [(0, .ref (gAd g (6, 0, 0))), (1, .int x1), (2, .int x2), (3, .int a'.1), (4, .int a'.2.1)] [] a'.2.2) (he0 : ∀ b, r = .inr b → Z x g 5 ρ 65 [(0, .ref (gAd g (6, 0, 0))), (1, .int x1), (2, .int x2), (3, .int b.1)] [] b.2) : Z x g 5 ρ 27 [(0, .ref (gAd g (6, 0, 0))), (1, .int x1), (2, .int x2), (3, .int x3), (4, .int x4)] [] σ := by
  unfold b_M_yard_27 at hf
  refine z_iload hc d_M_yard_27 4 rfl ?_
  refine z_aload_n hc d_M_yard_29 0 rfl ?_
  refine gf_M_9 hc d_M_yard_30  ?_
  refine z_iconst (v := (iI 2)) hc d_M_yard_33 (by decide) ?_
  obtain ⟨j10, hj11, hf⟩ := bd hf
  refine ald_ms hc d_M_yard_34  hj11 ?_
  refine z_icmp_ge (tgt := 65) hc d_M_yard_35 (by decide) (fun hq => ?_) (fun hq => ?_)
  · have hf := ifp hq hf
    refine z_sub [0, 1, 2, 3] (L' := [(0, .ref (gAd g (6, 0, 0))), (1, .int x1), (2, .int x2), (3, .int x3)]) rfl ?_
    exact he0 (x3, σ) (Option.some.inj hf).symm
  · have hf := ifn hq hf
    refine z_iload_n hc d_M_yard_38 3 rfl ?_
    refine z_aload_n hc d_M_yard_39 0 rfl ?_
    refine z_iload hc d_M_yard_40 4 rfl ?_
    refine z_iload_n hc d_M_yard_42 1 rfl ?_
    obtain ⟨v12, σ13, h14, hf⟩ := bd2 hf
    refine cz_M_65 hc d_M_yard_43 (by decide)  h14 (Nat.le_of_ble_eq_true rfl) ?_
    refine z_if_eq (tgt := 56) hc d_M_yard_46 (by decide) (fun hq => ?_) (fun hq => ?_)
    · have hf := ifp hq hf
      refine z_iconst (v := (iI 0)) hc d_M_yard_56 (by decide) ?_
      refine z_ior hc d_M_yard_57 ?_
      refine z_istore_n (L' := [(3, .int (x3 ||| (iI 0))), (0, .ref (gAd g (6, 0, 0))), (1, .int x1), (2, .int x2), (4, .int x4)]) hc d_M_yard_58 (by decide) rfl ?_
      refine z_iinc (v := x4 + (iI 1)) (L' := [(4, .int (x4 + (iI 1))), (3, .int (x3 ||| (iI 0))), (0, .ref (gAd g (6, 0, 0))), (1, .int x1), (2, .int x2)]) hc d_M_yard_59 4 rfl rfl (by decide) rfl ?_
      refine z_goto (tgt := 27) hc d_M_yard_62 (by decide) ?_
      refine z_sub [2, 3, 4, 1, 0] (L' := [(0, .ref (gAd g (6, 0, 0))), (1, .int x1), (2, .int x2), (3, .int (x3 ||| (iI 0))), (4, .int (x4 + (iI 1)))]) rfl ?_
      exact hi (x3 ||| (iI 0), x4 + (iI 1), σ13) (Option.some.inj hf).symm
    · have hf := ifn hq hf
      refine z_iconst (v := (iI 1)) hc d_M_yard_49 (by decide) ?_
      refine z_iload hc d_M_yard_50 4 rfl ?_
      refine z_ishl hc d_M_yard_52 ?_
      refine z_goto (tgt := 57) hc d_M_yard_53 (by decide) ?_
      refine z_ior hc d_M_yard_57 ?_
      refine z_istore_n (L' := [(3, .int (x3 ||| ((iI 1) <<< (x4 &&& 31)))), (0, .ref (gAd g (6, 0, 0))), (1, .int x1), (2, .int x2), (4, .int x4)]) hc d_M_yard_58 (by decide) rfl ?_
      refine z_iinc (v := x4 + (iI 1)) (L' := [(4, .int (x4 + (iI 1))), (3, .int (x3 ||| ((iI 1) <<< (x4 &&& 31)))), (0, .ref (gAd g (6, 0, 0))), (1, .int x1), (2, .int x2)]) hc d_M_yard_59 4 rfl rfl (by decide) rfl ?_
      refine z_goto (tgt := 27) hc d_M_yard_62 (by decide) ?_
      refine z_sub [2, 3, 4, 1, 0] (L' := [(0, .ref (gAd g (6, 0, 0))), (1, .int x1), (2, .int x2), (3, .int (x3 ||| ((iI 1) <<< (x4 &&& 31)))), (4, .int (x4 + (iI 1)))]) rfl ?_
      exact hi (x3 ||| ((iI 1) <<< (x4 &&& 31)), x4 + (iI 1), σ13) (Option.some.inj hf).symm
def f_M_yard (x1 : Int32) (x2 : Int32) (σ : Sg) : Option (Int32 × Sg) :=
  b2 (f_M_isYard x1 σ) (fun v1 σ2 => (if v1 = (iI 0) then j_M_yard_16   σ2 else b2 (f_M_in1 x2 (iI 0) (iI 2) σ2) (fun v7 σ8 => (if v7 = (iI 0) then j_M_yard_16   σ8 else Option.bind (lp (fun a => b_M_yard_27 x1 x2 a.1 a.2.1 a.2.2) FU ((iI 0), (iI 0), σ8)) (fun b24 => (if x2 = (iI 0) then b2 (f_M_whoseIs x1 b24.2) (fun v21 σ22 => some (v21, σ22)) else (if x2 = (iI 1) then b2 (f_M_topOf x1 b24.2) (fun v18 σ19 => some (v18, σ19)) else some (b24.1, b24.2))))))))
theorem ok_M_yard (g : Gv) (x1 : Int32) (x2 : Int32) (σ : Sg) (r : Int32 × Sg) (hf : f_M_yard x1 x2 σ = some r) : Ok g y_M_yard c_M_yard 5 (some .int) 5 [.ref (gAd g (6, 0, 0)), .int x1, .int x2] σ (some (.int r.1), r.2) := by
  unfold f_M_yard at hf
  refine Ok.of [(0, .ref (gAd g (6, 0, 0))), (1, .int x1), (2, .int x2)] (by decide) (Nat.le_of_ble_eq_true rfl) rfl ?_
  intro x hc
  have hc : Zc x g c_M_yard R_M 5 (some .int) 5 := hc
  obtain ⟨ρ, hρ⟩ : ∃ ρ : Option Value × Sg, ρ = (some (.int r.1), r.2) := ⟨_, rfl⟩
  rw [← hρ]
  refine z_iload_n hc d_M_yard_0 1 rfl ?_
  obtain ⟨v1, σ2, h3, hf⟩ := bd2 hf
  refine cz_M_95 hc d_M_yard_1 (by decide)  h3 (Nat.le_of_ble_eq_true rfl) ?_
  refine z_if_eq (tgt := 16) hc d_M_yard_4 (by decide) (fun hq => ?_) (fun hq => ?_)
  · have hf := ifp hq hf
    refine z_sub [0] (L' := [(0, .ref (gAd g (6, 0, 0)))]) rfl ?_
    exact sj_M_yard_16 hc     σ2 _ hf hρ
  · have hf := ifn hq hf
    refine z_iload_n hc d_M_yard_7 2 rfl ?_
    refine z_iconst (v := (iI 0)) hc d_M_yard_8 (by decide) ?_
    refine z_iconst (v := (iI 2)) hc d_M_yard_9 (by decide) ?_
    obtain ⟨v7, σ8, h9, hf⟩ := bd2 hf
    refine cz_M_49 hc d_M_yard_10 (by decide)  h9 (Nat.le_of_ble_eq_true rfl) ?_
    refine z_if_ne (tgt := 22) hc d_M_yard_13 (by decide) (fun hq => ?_) (fun hq => ?_)
    · have hf := ifn hq hf
      refine z_iconst (v := (iI 0)) hc d_M_yard_22 (by decide) ?_
      refine z_istore_n (L' := [(3, .int (iI 0)), (0, .ref (gAd g (6, 0, 0))), (1, .int x1), (2, .int x2)]) hc d_M_yard_23 (by decide) rfl ?_
      refine z_iconst (v := (iI 0)) hc d_M_yard_24 (by decide) ?_
      refine z_istore (L' := [(4, .int (iI 0)), (3, .int (iI 0)), (0, .ref (gAd g (6, 0, 0))), (1, .int x1), (2, .int x2)]) hc d_M_yard_25 (by decide) rfl ?_
      refine z_sub [2, 3, 4, 1, 0] (L' := [(0, .ref (gAd g (6, 0, 0))), (1, .int x1), (2, .int x2), (3, .int (iI 0)), (4, .int (iI 0))]) rfl ?_
      obtain ⟨⟨y16, σ17⟩, hl25, hf⟩ := bd hf
      try dsimp only at hf
      refine lp_walk (α := (Int32 × Int32 × Sg)) (β := (Int32 × Sg)) (body := (fun a : (Int32 × Int32 × Sg) => b_M_yard_27 x1 x2 a.1 a.2.1 a.2.2)) (In := (fun a : (Int32 × Int32 × Sg) => Z x g 5 ρ 27 [(0, .ref (gAd g (6, 0, 0))), (1, .int x1), (2, .int x2), (3, .int a.1), (4, .int a.2.1)] [] a.2.2)) (Out := (fun b => Z x g 5 ρ 65 [(0, .ref (gAd g (6, 0, 0))), (1, .int x1), (2, .int x2), (3, .int b.1)] [] b.2)) (fun a r hb hi ho => sb_M_yard_27 hc x1 x2  a.1 a.2.1 a.2.2 r hb hi (fun b e => ho _ e)) FU ((iI 0), (iI 0), σ8) _ hl25 ?_
      dsimp only
      refine z_iload_n hc d_M_yard_65 2 rfl ?_
      refine z_if_ne (tgt := 77) hc d_M_yard_66 (by decide) (fun hq => ?_) (fun hq => ?_)
      · have hf := ifn hq hf
        refine z_iload_n hc d_M_yard_77 2 rfl ?_
        refine z_iconst (v := (iI 1)) hc d_M_yard_78 (by decide) ?_
        refine z_icmp_ne (tgt := 90) hc d_M_yard_79 (by decide) (fun hq => ?_) (fun hq => ?_)
        · have hf := ifn hq hf
          refine z_iload_n hc d_M_yard_90 3 rfl ?_
          exact z_iret hc d_M_yard_91 (rI hf hρ)
        · have hf := ifp hq hf
          refine z_aload_n hc d_M_yard_82 0 rfl ?_
          refine z_iload_n hc d_M_yard_83 1 rfl ?_
          obtain ⟨v18, σ19, h20, hf⟩ := bd2 hf
          refine cz_M_69 hc d_M_yard_84 (by decide)  h20 (Nat.le_of_ble_eq_true rfl) ?_
          refine z_goto (tgt := 91) hc d_M_yard_87 (by decide) ?_
          exact z_iret hc d_M_yard_91 (rI hf hρ)
      · have hf := ifp hq hf
        refine z_aload_n hc d_M_yard_69 0 rfl ?_
        refine z_iload_n hc d_M_yard_70 1 rfl ?_
        obtain ⟨v21, σ22, h23, hf⟩ := bd2 hf
        refine cz_M_72 hc d_M_yard_71 (by decide)  h23 (Nat.le_of_ble_eq_true rfl) ?_
        refine z_goto (tgt := 91) hc d_M_yard_74 (by decide) ?_
        exact z_iret hc d_M_yard_91 (rI hf hρ)
    · have hf := ifp hq hf
      refine z_sub [0] (L' := [(0, .ref (gAd g (6, 0, 0)))]) rfl ?_
      exact sj_M_yard_16 hc     σ8 _ hf hρ
theorem vl_M_99 : VL R_M 99 y_M_yardsOf c_M_yardsOf 4 (some .int) 1 := ⟨tb4 231 (by decide +kernel) (by decide +kernel), tb4 233 (by decide +kernel) (by decide +kernel), tbp 16 (by decide +kernel), tb1 12 (by decide +kernel) (by decide +kernel), k_M_yardsOf, by decide, by decide, by decide +kernel, by decide⟩
theorem cz_M_99 {x : Cx} {g : Gv} {cc : ByteArray} {nL d pc : Nat} {ret : Option FieldType} {ρ : Option Value × Sg} {L : List (Nat × Value)} {st : List Value} {σ : Sg} (hc : Zc x g cc R_M nL ret d) (hd : decode cc pc = .ok (.invokevirtual 99, 3)) (hdd : 6 ≤ d) {x1 : Int32} {v : Int32} {σ1 : Sg} (hf : f_M_yardsOf x1 σ = some (v, σ1)) (hst : (st.map (fun v => v.category)).sum ≤ 8) (k : Z x g nL ρ (pc + 3) L (.int v :: st) σ1) : Z x g nL ρ pc L (.int x1 :: .ref (gAd g (6, 0, 0)) :: st) σ := z_callV (ci := 11) (As := [.int x1]) hc hd vl_M_99 hdd (6, 0, 0) (dm_M) rfl rfl (ok_M_yardsOf g x1 σ (v, σ1) hf) rfl rfl hst rfl k
def f_M_owns (x1 : Int32) (σ : Sg) : Option (Int32 × Sg) :=
  b2 (f_M_in1 x1 (iI (-1)) (iI 3) σ) (fun v1 σ2 => (if v1 = (iI 0) then b2 (f_M_no (iI 0) σ2) (fun v4 σ5 => some (v4, σ5)) else b2 (f_M_yardsOf x1 σ2) (fun v7 σ8 => some (v7, σ8))))
theorem ok_M_owns (g : Gv) (x1 : Int32) (σ : Sg) (r : Int32 × Sg) (hf : f_M_owns x1 σ = some r) : Ok g y_M_owns c_M_owns 2 (some .int) 6 [.ref (gAd g (6, 0, 0)), .int x1] σ (some (.int r.1), r.2) := by
  unfold f_M_owns at hf
  refine Ok.of [(0, .ref (gAd g (6, 0, 0))), (1, .int x1)] (by decide) (Nat.le_of_ble_eq_true rfl) rfl ?_
  intro x hc
  have hc : Zc x g c_M_owns R_M 2 (some .int) 6 := hc
  obtain ⟨ρ, hρ⟩ : ∃ ρ : Option Value × Sg, ρ = (some (.int r.1), r.2) := ⟨_, rfl⟩
  rw [← hρ]
  refine z_iload_n hc d_M_owns_0 1 rfl ?_
  refine z_iconst (v := (iI (-1))) hc d_M_owns_1 (by decide) ?_
  refine z_iconst (v := (iI 3)) hc d_M_owns_2 (by decide) ?_
  obtain ⟨v1, σ2, h3, hf⟩ := bd2 hf
  refine cz_M_49 hc d_M_owns_3 (by decide)  h3 (Nat.le_of_ble_eq_true rfl) ?_
  refine z_if_eq (tgt := 17) hc d_M_owns_6 (by decide) (fun hq => ?_) (fun hq => ?_)
  · have hf := ifp hq hf
    refine z_aload_n hc d_M_owns_17 0 rfl ?_
    refine z_iconst (v := (iI 0)) hc d_M_owns_18 (by decide) ?_
    obtain ⟨v4, σ5, h6, hf⟩ := bd2 hf
    refine cz_M_92 hc d_M_owns_19 (by decide)  h6 (Nat.le_of_ble_eq_true rfl) ?_
    exact z_iret hc d_M_owns_22 (rI hf hρ)
  · have hf := ifn hq hf
    refine z_aload_n hc d_M_owns_9 0 rfl ?_
    refine z_iload_n hc d_M_owns_10 1 rfl ?_
    obtain ⟨v7, σ8, h9, hf⟩ := bd2 hf
    refine cz_M_99 hc d_M_owns_11 (by decide)  h9 (Nat.le_of_ble_eq_true rfl) ?_
    refine z_goto (tgt := 22) hc d_M_owns_14 (by decide) ?_
    exact z_iret hc d_M_owns_22 (rI hf hρ)
def b_M_borders_4 (x1 : Int32) (x2 : Int32) (σ : Sg) : Option ((Int32 × Int32 × Sg) ⊕ (Int32 × Sg)) :=
  (if (iI 40) ≤ (x2 + (iI 1)) then some (.inr (x1, σ)) else b2 (f_M_whoseIs x2 σ) (fun v1 σ2 => b2 (f_M_whoseIs (x2 + (iI 1)) σ2) (fun v4 σ5 => (if v1 = v4 then some (.inl (x1 + (iI 0), x2 + (iI 1), σ5)) else some (.inl (x1 + (iI 1), x2 + (iI 1), σ5))))))
theorem sb_M_borders_4 {x : Cx} {g : Gv} {ρ : Option Value × Sg} (hc : Zc x g c_M_borders R_M 3 (some .int) 5) (x1 : Int32) (x2 : Int32) (σ : Sg) (r : (Int32 × Int32 × Sg) ⊕ (Int32 × Sg)) (hf : b_M_borders_4 x1 x2 σ = some r) (hi : ∀ a', r = .inl a' → Z x g 3 ρ 4 [(0, .ref (gAd g (6, 0, 0))), (1, .int a'.1), (2, .int a'.2.1)] [] a'.2.2) (he0 : ∀ b, r = .inr b → Z x g 3 ρ 41 [(1, .int b.1)] [] b.2) : Z x g 3 ρ 4 [(0, .ref (gAd g (6, 0, 0))), (1, .int x1), (2, .int x2)] [] σ := by
  unfold b_M_borders_4 at hf
  refine z_iload_n hc d_M_borders_4 2 rfl ?_
  refine z_iconst (v := (iI 1)) hc d_M_borders_5 (by decide) ?_
  refine z_iadd hc d_M_borders_6 ?_
  refine z_bipush (v := (iI 40)) hc d_M_borders_7 (by decide) ?_
  refine z_icmp_ge (tgt := 41) hc d_M_borders_9 (by decide) (fun hq => ?_) (fun hq => ?_)
  · have hf := ifp hq hf
    refine z_sub [1] (L' := [(1, .int x1)]) rfl ?_
    exact he0 (x1, σ) (Option.some.inj hf).symm
  · have hf := ifn hq hf
    refine z_iload_n hc d_M_borders_12 1 rfl ?_
    refine z_aload_n hc d_M_borders_13 0 rfl ?_
    refine z_iload_n hc d_M_borders_14 2 rfl ?_
    obtain ⟨v1, σ2, h3, hf⟩ := bd2 hf
    refine cz_M_72 hc d_M_borders_15 (by decide)  h3 (Nat.le_of_ble_eq_true rfl) ?_
    refine z_aload_n hc d_M_borders_18 0 rfl ?_
    refine z_iload_n hc d_M_borders_19 2 rfl ?_
    refine z_iconst (v := (iI 1)) hc d_M_borders_20 (by decide) ?_
    refine z_iadd hc d_M_borders_21 ?_
    obtain ⟨v4, σ5, h6, hf⟩ := bd2 hf
    refine cz_M_72 hc d_M_borders_22 (by decide)  h6 (Nat.le_of_ble_eq_true rfl) ?_
    refine z_icmp_eq (tgt := 32) hc d_M_borders_25 (by decide) (fun hq => ?_) (fun hq => ?_)
    · have hf := ifp hq hf
      refine z_iconst (v := (iI 0)) hc d_M_borders_32 (by decide) ?_
      refine z_iadd hc d_M_borders_33 ?_
      refine z_istore_n (L' := [(1, .int (x1 + (iI 0))), (0, .ref (gAd g (6, 0, 0))), (2, .int x2)]) hc d_M_borders_34 (by decide) rfl ?_
      refine z_iinc (v := x2 + (iI 1)) (L' := [(2, .int (x2 + (iI 1))), (1, .int (x1 + (iI 0))), (0, .ref (gAd g (6, 0, 0)))]) hc d_M_borders_35 2 rfl rfl (by decide) rfl ?_
      refine z_goto (tgt := 4) hc d_M_borders_38 (by decide) ?_
      refine z_sub [2, 1, 0] (L' := [(0, .ref (gAd g (6, 0, 0))), (1, .int (x1 + (iI 0))), (2, .int (x2 + (iI 1)))]) rfl ?_
      exact hi (x1 + (iI 0), x2 + (iI 1), σ5) (Option.some.inj hf).symm
    · have hf := ifn hq hf
      refine z_iconst (v := (iI 1)) hc d_M_borders_28 (by decide) ?_
      refine z_goto (tgt := 33) hc d_M_borders_29 (by decide) ?_
      refine z_iadd hc d_M_borders_33 ?_
      refine z_istore_n (L' := [(1, .int (x1 + (iI 1))), (0, .ref (gAd g (6, 0, 0))), (2, .int x2)]) hc d_M_borders_34 (by decide) rfl ?_
      refine z_iinc (v := x2 + (iI 1)) (L' := [(2, .int (x2 + (iI 1))), (1, .int (x1 + (iI 1))), (0, .ref (gAd g (6, 0, 0)))]) hc d_M_borders_35 2 rfl rfl (by decide) rfl ?_
      refine z_goto (tgt := 4) hc d_M_borders_38 (by decide) ?_
      refine z_sub [2, 1, 0] (L' := [(0, .ref (gAd g (6, 0, 0))), (1, .int (x1 + (iI 1))), (2, .int (x2 + (iI 1)))]) rfl ?_
      exact hi (x1 + (iI 1), x2 + (iI 1), σ5) (Option.some.inj hf).symm
def f_M_borders (σ : Sg) : Option (Int32 × Sg) :=
  Option.bind (lp (fun a => b_M_borders_4  a.1 a.2.1 a.2.2) FU ((iI 0), (iI 0), σ)) (fun b10 => some (b10.1, b10.2))
theorem ok_M_borders (g : Gv) (σ : Sg) (r : Int32 × Sg) (hf : f_M_borders σ = some r) : Ok g y_M_borders c_M_borders 3 (some .int) 5 [.ref (gAd g (6, 0, 0))] σ (some (.int r.1), r.2) := by
  unfold f_M_borders at hf
  refine Ok.of [(0, .ref (gAd g (6, 0, 0)))] (by decide) (Nat.le_of_ble_eq_true rfl) rfl ?_
  intro x hc
  have hc : Zc x g c_M_borders R_M 3 (some .int) 5 := hc
  obtain ⟨ρ, hρ⟩ : ∃ ρ : Option Value × Sg, ρ = (some (.int r.1), r.2) := ⟨_, rfl⟩
  rw [← hρ]
  refine z_iconst (v := (iI 0)) hc d_M_borders_0 (by decide) ?_
  refine z_istore_n (L' := [(1, .int (iI 0)), (0, .ref (gAd g (6, 0, 0)))]) hc d_M_borders_1 (by decide) rfl ?_
  refine z_iconst (v := (iI 0)) hc d_M_borders_2 (by decide) ?_
  refine z_istore_n (L' := [(2, .int (iI 0)), (1, .int (iI 0)), (0, .ref (gAd g (6, 0, 0)))]) hc d_M_borders_3 (by decide) rfl ?_
  refine z_sub [2, 1, 0] (L' := [(0, .ref (gAd g (6, 0, 0))), (1, .int (iI 0)), (2, .int (iI 0))]) rfl ?_
  obtain ⟨⟨y8, σ9⟩, hl11, hf⟩ := bd hf
  try dsimp only at hf
  refine lp_walk (α := (Int32 × Int32 × Sg)) (β := (Int32 × Sg)) (body := (fun a : (Int32 × Int32 × Sg) => b_M_borders_4  a.1 a.2.1 a.2.2)) (In := (fun a : (Int32 × Int32 × Sg) => Z x g 3 ρ 4 [(0, .ref (gAd g (6, 0, 0))), (1, .int a.1), (2, .int a.2.1)] [] a.2.2)) (Out := (fun b => Z x g 3 ρ 41 [(1, .int b.1)] [] b.2)) (fun a r hb hi ho => sb_M_borders_4 hc   a.1 a.2.1 a.2.2 r hb hi (fun b e => ho _ e)) FU ((iI 0), (iI 0), σ) _ hl11 ?_
  dsimp only
  refine z_iload_n hc d_M_borders_41 0 rfl ?_
  exact z_iret hc d_M_borders_42 (rI hf hρ)
def b_M_walk_24 (x2 : Int32) (x4 : Int32) (x3 : Int32) (σ : Sg) : Option ((Int32 × Sg) ⊕ (Int32 × Sg)) :=
  (if x3 ≤ (iI 0) then some (.inr (x3, σ)) else b2 (f_M_whoseIs (x3 - (iI 1)) σ) (fun v7 σ8 => (if v7 = x2 then some (.inl (x3 + (iI (-1)), σ8)) else some (.inr (x3, σ8)))))
theorem sb_M_walk_24 {x : Cx} {g : Gv} {ρ : Option Value × Sg} (hc : Zc x g c_M_walk R_M 5 (some .int) 5) (x2 : Int32) (x4 : Int32) (x3 : Int32) (σ : Sg) (r : (Int32 × Sg) ⊕ (Int32 × Sg)) (hf : b_M_walk_24 x2 x4 x3 σ = some r) (hi : ∀ a', r = .inl a' → Z x g 5 ρ 24 [(0, .ref (gAd g (6, 0, 0))), (2, .int x2), (3, .int a'.1), (4, .int x4)] [] a'.2) (he0 : ∀ b, r = .inr b → Z x g 5 ρ 45 [(0, .ref (gAd g (6, 0, 0))), (2, .int x2), (3, .int b.1), (4, .int x4)] [] b.2) : Z x g 5 ρ 24 [(0, .ref (gAd g (6, 0, 0))), (2, .int x2), (3, .int x3), (4, .int x4)] [] σ := by
  unfold b_M_walk_24 at hf
  refine z_iload_n hc d_M_walk_24 2 rfl ?_
  refine z_if_le (tgt := 45) hc d_M_walk_25 (by decide) (fun hq => ?_) (fun hq => ?_)
  · have hf := ifp hq hf
    refine z_sub [0, 1, 2, 3] (L' := [(0, .ref (gAd g (6, 0, 0))), (2, .int x2), (3, .int x3), (4, .int x4)]) rfl ?_
    exact he0 (x3, σ) (Option.some.inj hf).symm
  · have hf := ifn hq hf
    refine z_aload_n hc d_M_walk_28 0 rfl ?_
    refine z_iload_n hc d_M_walk_29 2 rfl ?_
    refine z_iconst (v := (iI 1)) hc d_M_walk_30 (by decide) ?_
    refine z_isub hc d_M_walk_31 ?_
    obtain ⟨v7, σ8, h9, hf⟩ := bd2 hf
    refine cz_M_72 hc d_M_walk_32 (by decide)  h9 (Nat.le_of_ble_eq_true rfl) ?_
    refine z_iload_n hc d_M_walk_35 1 rfl ?_
    refine z_icmp_ne (tgt := 45) hc d_M_walk_36 (by decide) (fun hq => ?_) (fun hq => ?_)
    · have hf := ifn hq hf
      refine z_sub [0, 1, 2, 3] (L' := [(0, .ref (gAd g (6, 0, 0))), (2, .int x2), (3, .int x3), (4, .int x4)]) rfl ?_
      exact he0 (x3, σ8) (Option.some.inj hf).symm
    · have hf := ifp hq hf
      refine z_iinc (v := x3 + (iI (-1))) (L' := [(3, .int (x3 + (iI (-1)))), (0, .ref (gAd g (6, 0, 0))), (2, .int x2), (4, .int x4)]) hc d_M_walk_39 2 rfl rfl (by decide) rfl ?_
      refine z_goto (tgt := 24) hc d_M_walk_42 (by decide) ?_
      refine z_sub [1, 2, 0, 3] (L' := [(0, .ref (gAd g (6, 0, 0))), (2, .int x2), (3, .int (x3 + (iI (-1)))), (4, .int x4)]) rfl ?_
      exact hi (x3 + (iI (-1)), σ8) (Option.some.inj hf).symm
def b_M_walk_45 (x2 : Int32) (x3 : Int32) (x4 : Int32) (σ : Sg) : Option ((Int32 × Sg) ⊕ (Int32 × Sg)) :=
  (if (iI 39) ≤ x4 then some (.inr (x4, σ)) else b2 (f_M_whoseIs (x4 + (iI 1)) σ) (fun v13 σ14 => (if v13 = x2 then some (.inl (x4 + (iI 1), σ14)) else some (.inr (x4, σ14)))))
theorem sb_M_walk_45 {x : Cx} {g : Gv} {ρ : Option Value × Sg} (hc : Zc x g c_M_walk R_M 5 (some .int) 5) (x2 : Int32) (x3 : Int32) (x4 : Int32) (σ : Sg) (r : (Int32 × Sg) ⊕ (Int32 × Sg)) (hf : b_M_walk_45 x2 x3 x4 σ = some r) (hi : ∀ a', r = .inl a' → Z x g 5 ρ 45 [(0, .ref (gAd g (6, 0, 0))), (2, .int x2), (3, .int x3), (4, .int a'.1)] [] a'.2) (he0 : ∀ b, r = .inr b → Z x g 5 ρ 70 [(3, .int x3), (4, .int b.1)] [] b.2) : Z x g 5 ρ 45 [(0, .ref (gAd g (6, 0, 0))), (2, .int x2), (3, .int x3), (4, .int x4)] [] σ := by
  unfold b_M_walk_45 at hf
  refine z_iload hc d_M_walk_45 3 rfl ?_
  refine z_bipush (v := (iI 39)) hc d_M_walk_47 (by decide) ?_
  refine z_icmp_ge (tgt := 70) hc d_M_walk_49 (by decide) (fun hq => ?_) (fun hq => ?_)
  · have hf := ifp hq hf
    refine z_sub [2, 3] (L' := [(3, .int x3), (4, .int x4)]) rfl ?_
    exact he0 (x4, σ) (Option.some.inj hf).symm
  · have hf := ifn hq hf
    refine z_aload_n hc d_M_walk_52 0 rfl ?_
    refine z_iload hc d_M_walk_53 3 rfl ?_
    refine z_iconst (v := (iI 1)) hc d_M_walk_55 (by decide) ?_
    refine z_iadd hc d_M_walk_56 ?_
    obtain ⟨v13, σ14, h15, hf⟩ := bd2 hf
    refine cz_M_72 hc d_M_walk_57 (by decide)  h15 (Nat.le_of_ble_eq_true rfl) ?_
    refine z_iload_n hc d_M_walk_60 1 rfl ?_
    refine z_icmp_ne (tgt := 70) hc d_M_walk_61 (by decide) (fun hq => ?_) (fun hq => ?_)
    · have hf := ifn hq hf
      refine z_sub [2, 3] (L' := [(3, .int x3), (4, .int x4)]) rfl ?_
      exact he0 (x4, σ14) (Option.some.inj hf).symm
    · have hf := ifp hq hf
      refine z_iinc (v := x4 + (iI 1)) (L' := [(4, .int (x4 + (iI 1))), (0, .ref (gAd g (6, 0, 0))), (2, .int x2), (3, .int x3)]) hc d_M_walk_64 3 rfl rfl (by decide) rfl ?_
      refine z_goto (tgt := 45) hc d_M_walk_67 (by decide) ?_
      refine z_sub [1, 2, 3, 0] (L' := [(0, .ref (gAd g (6, 0, 0))), (2, .int x2), (3, .int x3), (4, .int (x4 + (iI 1)))]) rfl ?_
      exact hi (x4 + (iI 1), σ14) (Option.some.inj hf).symm
def f_M_walk (x1 : Int32) (σ : Sg) : Option (Int32 × Sg) :=
  b2 (f_M_isYard x1 σ) (fun v1 σ2 => (if v1 = (iI 0) then b2 (f_M_no (iI 0) σ2) (fun v23 σ24 => some (v23, σ24)) else b2 (f_M_whoseIs x1 σ2) (fun v4 σ5 => Option.bind (lp (fun a => b_M_walk_24 v4 x1 a.1 a.2) FU (x1, σ5)) (fun b21 => Option.bind (lp (fun a => b_M_walk_45 v4 b21.1 a.1 a.2) FU (x1, b21.2)) (fun b19 => some ((b19.1 - b21.1) + (iI 1), b19.2))))))
theorem ok_M_walk (g : Gv) (x1 : Int32) (σ : Sg) (r : Int32 × Sg) (hf : f_M_walk x1 σ = some r) : Ok g y_M_walk c_M_walk 5 (some .int) 5 [.ref (gAd g (6, 0, 0)), .int x1] σ (some (.int r.1), r.2) := by
  unfold f_M_walk at hf
  refine Ok.of [(0, .ref (gAd g (6, 0, 0))), (1, .int x1)] (by decide) (Nat.le_of_ble_eq_true rfl) rfl ?_
  intro x hc
  have hc : Zc x g c_M_walk R_M 5 (some .int) 5 := hc
  obtain ⟨ρ, hρ⟩ : ∃ ρ : Option Value × Sg, ρ = (some (.int r.1), r.2) := ⟨_, rfl⟩
  rw [← hρ]
  refine z_iload_n hc d_M_walk_0 1 rfl ?_
  obtain ⟨v1, σ2, h3, hf⟩ := bd2 hf
  refine cz_M_95 hc d_M_walk_1 (by decide)  h3 (Nat.le_of_ble_eq_true rfl) ?_
  refine z_if_ne (tgt := 13) hc d_M_walk_4 (by decide) (fun hq => ?_) (fun hq => ?_)
  · have hf := ifn hq hf
    refine z_aload_n hc d_M_walk_13 0 rfl ?_
    refine z_iload_n hc d_M_walk_14 1 rfl ?_
    obtain ⟨v4, σ5, h6, hf⟩ := bd2 hf
    refine cz_M_72 hc d_M_walk_15 (by decide)  h6 (Nat.le_of_ble_eq_true rfl) ?_
    refine z_istore_n (L' := [(2, .int v4), (0, .ref (gAd g (6, 0, 0))), (1, .int x1)]) hc d_M_walk_18 (by decide) rfl ?_
    refine z_iload_n hc d_M_walk_19 2 rfl ?_
    refine z_istore_n (L' := [(3, .int x1), (2, .int v4), (0, .ref (gAd g (6, 0, 0))), (1, .int x1)]) hc d_M_walk_20 (by decide) rfl ?_
    refine z_iload_n hc d_M_walk_21 3 rfl ?_
    refine z_istore (L' := [(4, .int x1), (3, .int x1), (2, .int v4), (0, .ref (gAd g (6, 0, 0))), (1, .int x1)]) hc d_M_walk_22 (by decide) rfl ?_
    refine z_sub [3, 2, 1, 0] (L' := [(0, .ref (gAd g (6, 0, 0))), (2, .int v4), (3, .int x1), (4, .int x1)]) rfl ?_
    obtain ⟨⟨y11, σ12⟩, hl22, hf⟩ := bd hf
    try dsimp only at hf
    refine lp_walk (α := (Int32 × Sg)) (β := (Int32 × Sg)) (body := (fun a : (Int32 × Sg) => b_M_walk_24 v4 x1 a.1 a.2)) (In := (fun a : (Int32 × Sg) => Z x g 5 ρ 24 [(0, .ref (gAd g (6, 0, 0))), (2, .int v4), (3, .int a.1), (4, .int x1)] [] a.2)) (Out := (fun b => Z x g 5 ρ 45 [(0, .ref (gAd g (6, 0, 0))), (2, .int v4), (3, .int b.1), (4, .int x1)] [] b.2)) (fun a r hb hi ho => sb_M_walk_24 hc v4 x1  a.1 a.2 r hb hi (fun b e => ho _ e)) FU (x1, σ5) _ hl22 ?_
    dsimp only
    refine z_sub [0, 1, 2, 3] (L' := [(0, .ref (gAd g (6, 0, 0))), (2, .int v4), (3, .int y11), (4, .int x1)]) rfl ?_
    obtain ⟨⟨y17, σ18⟩, hl20, hf⟩ := bd hf
    try dsimp only at hf
    refine lp_walk (α := (Int32 × Sg)) (β := (Int32 × Sg)) (body := (fun a : (Int32 × Sg) => b_M_walk_45 v4 y11 a.1 a.2)) (In := (fun a : (Int32 × Sg) => Z x g 5 ρ 45 [(0, .ref (gAd g (6, 0, 0))), (2, .int v4), (3, .int y11), (4, .int a.1)] [] a.2)) (Out := (fun b => Z x g 5 ρ 70 [(3, .int y11), (4, .int b.1)] [] b.2)) (fun a r hb hi ho => sb_M_walk_45 hc v4 y11  a.1 a.2 r hb hi (fun b e => ho _ e)) FU (x1, σ12) _ hl20 ?_
    dsimp only
    refine z_iload hc d_M_walk_70 1 rfl ?_
    refine z_iload_n hc d_M_walk_72 0 rfl ?_
    refine z_isub hc d_M_walk_73 ?_
    refine z_iconst (v := (iI 1)) hc d_M_walk_74 (by decide) ?_
    refine z_iadd hc d_M_walk_75 ?_
    exact z_iret hc d_M_walk_76 (rI hf hρ)
  · have hf := ifp hq hf
    refine z_aload_n hc d_M_walk_7 0 rfl ?_
    refine z_iconst (v := (iI 0)) hc d_M_walk_8 (by decide) ?_
    obtain ⟨v23, σ24, h25, hf⟩ := bd2 hf
    refine cz_M_92 hc d_M_walk_9 (by decide)  h25 (Nat.le_of_ble_eq_true rfl) ?_
    exact z_iret hc d_M_walk_12 (rI hf hρ)
theorem vl_M_102 : VL R_M 102 y_M_rolledOut c_M_rolledOut 3 (some .int) 0 := ⟨tb5 11 (by decide +kernel) (by decide +kernel), tb5 13 (by decide +kernel) (by decide +kernel), tbp 18 (by decide +kernel), tb1 12 (by decide +kernel) (by decide +kernel), k_M_rolledOut, by decide, by decide, by decide +kernel, by decide⟩
theorem cz_M_102 {x : Cx} {g : Gv} {cc : ByteArray} {nL d pc : Nat} {ret : Option FieldType} {ρ : Option Value × Sg} {L : List (Nat × Value)} {st : List Value} {σ : Sg} (hc : Zc x g cc R_M nL ret d) (hd : decode cc pc = .ok (.invokevirtual 102, 3)) (hdd : 2 ≤ d) {v : Int32} {σ1 : Sg} (hf : f_M_rolledOut σ = some (v, σ1)) (hst : (st.map (fun v => v.category)).sum ≤ 8) (k : Z x g nL ρ (pc + 3) L (.int v :: st) σ1) : Z x g nL ρ pc L (.ref (gAd g (6, 0, 0)) :: st) σ := z_callV (ci := 11) (As := []) hc hd vl_M_102 hdd (6, 0, 0) (dm_M) rfl rfl (ok_M_rolledOut g σ (v, σ1) hf) rfl rfl hst rfl k
theorem vl_M_106 : VL R_M 106 y_M_sumOf c_M_sumOf 4 (some .int) 1 := ⟨tb5 15 (by decide +kernel) (by decide +kernel), tb5 17 (by decide +kernel) (by decide +kernel), tbp 19 (by decide +kernel), tb1 12 (by decide +kernel) (by decide +kernel), k_M_sumOf, by decide, by decide, by decide +kernel, by decide⟩
theorem cz_M_106 {x : Cx} {g : Gv} {cc : ByteArray} {nL d pc : Nat} {ret : Option FieldType} {ρ : Option Value × Sg} {L : List (Nat × Value)} {st : List Value} {σ : Sg} (hc : Zc x g cc R_M nL ret d) (hd : decode cc pc = .ok (.invokevirtual 106, 3)) (hdd : 2 ≤ d) {x1 : Int32} {v : Int32} {σ1 : Sg} (hf : f_M_sumOf x1 σ = some (v, σ1)) (hst : (st.map (fun v => v.category)).sum ≤ 8) (k : Z x g nL ρ (pc + 3) L (.int v :: st) σ1) : Z x g nL ρ pc L (.int x1 :: .ref (gAd g (6, 0, 0)) :: st) σ := z_callV (ci := 11) (As := [.int x1]) hc hd vl_M_106 hdd (6, 0, 0) (dm_M) rfl rfl (ok_M_sumOf g x1 σ (v, σ1) hf) rfl rfl hst rfl k
def f_M_now (x1 : Int32) (σ : Sg) : Option (Int32 × Sg) :=
  (if x1 = (iI 0) then Option.bind (rd (iI 0) 66) (fun j1 => some (σ.1 20 0 0 j1, σ)) else (if x1 = (iI 1) then b2 (f_M_rains  σ) (fun v3 σ4 => (if v3 = (iI 0) then some ((iI 0), σ4) else some ((iI 1), σ4))) else (if x1 = (iI 2) then Option.bind (rd (iI 1) 66) (fun j6 => some (σ.1 20 0 0 j6, σ)) else (if x1 = (iI 3) then b2 (f_M_rolledOut  σ) (fun v8 σ9 => some (v8, σ9)) else (if x1 = (iI 4) then b2 (f_M_sumOf (iI 3) σ) (fun v11 σ12 => some (v11, σ12)) else b2 (f_M_no (iI 0) σ) (fun v14 σ15 => some (v14, σ15)))))))
theorem ok_M_now (g : Gv) (x1 : Int32) (σ : Sg) (r : Int32 × Sg) (hf : f_M_now x1 σ = some r) : Ok g y_M_now c_M_now 2 (some .int) 2 [.ref (gAd g (6, 0, 0)), .int x1] σ (some (.int r.1), r.2) := by
  unfold f_M_now at hf
  refine Ok.of [(0, .ref (gAd g (6, 0, 0))), (1, .int x1)] (by decide) (Nat.le_of_ble_eq_true rfl) rfl ?_
  intro x hc
  have hc : Zc x g c_M_now R_M 2 (some .int) 2 := hc
  obtain ⟨ρ, hρ⟩ : ∃ ρ : Option Value × Sg, ρ = (some (.int r.1), r.2) := ⟨_, rfl⟩
  rw [← hρ]
  refine z_iload_n hc d_M_now_0 1 rfl ?_
  by_cases hq0 : x1 = (iI 0)
  · have hf := ifp hq0 hf
    refine z_tab (tgt := 36) (off := 35) (iI 0) hc d_M_now_1 hq0 (by decide) (by decide) (by decide) (by decide) ?_
    refine z_aload_n hc d_M_now_36 0 rfl ?_
    refine gf_M_9 hc d_M_now_37  ?_
    refine z_iconst (v := (iI 0)) hc d_M_now_40 (by decide) ?_
    obtain ⟨j1, hj2, hf⟩ := bd hf
    refine ald_ms hc d_M_now_41  hj2 ?_
    exact z_iret hc d_M_now_42 (rI hf hρ)
  have hf := ifn hq0 hf
  by_cases hq1 : x1 = (iI 1)
  · have hf := ifp hq1 hf
    refine z_tab (tgt := 43) (off := 42) (iI 1) hc d_M_now_1 hq1 (by decide) (by decide) (by decide) (by decide) ?_
    refine z_aload_n hc d_M_now_43 0 rfl ?_
    obtain ⟨v3, σ4, h5, hf⟩ := bd2 hf
    refine cz_M_57 hc d_M_now_44 (by decide)  h5 (Nat.le_of_ble_eq_true rfl) ?_
    refine z_if_eq (tgt := 54) hc d_M_now_47 (by decide) (fun hq => ?_) (fun hq => ?_)
    · have hf := ifp hq hf
      refine z_iconst (v := (iI 0)) hc d_M_now_54 (by decide) ?_
      exact z_iret hc d_M_now_55 (rI hf hρ)
    · have hf := ifn hq hf
      refine z_iconst (v := (iI 1)) hc d_M_now_50 (by decide) ?_
      refine z_goto (tgt := 55) hc d_M_now_51 (by decide) ?_
      exact z_iret hc d_M_now_55 (rI hf hρ)
  have hf := ifn hq1 hf
  by_cases hq2 : x1 = (iI 2)
  · have hf := ifp hq2 hf
    refine z_tab (tgt := 56) (off := 55) (iI 2) hc d_M_now_1 hq2 (by decide) (by decide) (by decide) (by decide) ?_
    refine z_aload_n hc d_M_now_56 0 rfl ?_
    refine gf_M_9 hc d_M_now_57  ?_
    refine z_iconst (v := (iI 1)) hc d_M_now_60 (by decide) ?_
    obtain ⟨j6, hj7, hf⟩ := bd hf
    refine ald_ms hc d_M_now_61  hj7 ?_
    exact z_iret hc d_M_now_62 (rI hf hρ)
  have hf := ifn hq2 hf
  by_cases hq3 : x1 = (iI 3)
  · have hf := ifp hq3 hf
    refine z_tab (tgt := 63) (off := 62) (iI 3) hc d_M_now_1 hq3 (by decide) (by decide) (by decide) (by decide) ?_
    refine z_aload_n hc d_M_now_63 0 rfl ?_
    obtain ⟨v8, σ9, h10, hf⟩ := bd2 hf
    refine cz_M_102 hc d_M_now_64 (by decide)  h10 (Nat.le_of_ble_eq_true rfl) ?_
    exact z_iret hc d_M_now_67 (rI hf hρ)
  have hf := ifn hq3 hf
  by_cases hq4 : x1 = (iI 4)
  · have hf := ifp hq4 hf
    refine z_tab (tgt := 68) (off := 67) (iI 4) hc d_M_now_1 hq4 (by decide) (by decide) (by decide) (by decide) ?_
    refine z_aload_n hc d_M_now_68 0 rfl ?_
    refine z_iconst (v := (iI 3)) hc d_M_now_69 (by decide) ?_
    obtain ⟨v11, σ12, h13, hf⟩ := bd2 hf
    refine cz_M_106 hc d_M_now_70 (by decide)  h13 (Nat.le_of_ble_eq_true rfl) ?_
    exact z_iret hc d_M_now_73 (rI hf hρ)
  have hf := ifn hq4 hf
  refine z_tabD (tgt := 74) 5 (by decide) hc d_M_now_1 (fun j hj => by match j, hj with | 0, _ => exact hq0 | 1, _ => exact hq1 | 2, _ => exact hq2 | 3, _ => exact hq3 | 4, _ => exact hq4) (by decide) ?_
  refine z_aload_n hc d_M_now_74 0 rfl ?_
  refine z_iconst (v := (iI 0)) hc d_M_now_75 (by decide) ?_
  obtain ⟨v14, σ15, h16, hf⟩ := bd2 hf
  refine cz_M_92 hc d_M_now_76 (by decide)  h16 (Nat.le_of_ble_eq_true rfl) ?_
  exact z_iret hc d_M_now_79 (rI hf hρ)
def f_M_addsCarpet (x1 : Int32) (x2 : Int32) (σ : Sg) : Option (Unit × Sg) :=
  Option.bind (rd (iI 2) 66) (fun j1 => b2 (f_M_puts (σ.1 20 0 0 j1) (iI 0) x1 σ) (fun v3 σ4 => b2 (f_M_puts (σ.1 20 0 0 j1) (iI 1) x2 σ4) (fun v6 σ7 => b2 (f_M_puts (σ.1 20 0 0 j1) (iI 2) (iI 8) σ7) (fun v9 σ10 => b2 (f_M_puts (σ.1 20 0 0 j1) (iI 3) (iI 50) σ10) (fun v12 σ13 => b2 (f_M_puts (σ.1 20 0 0 j1) (iI 4) (iI 0) σ13) (fun v15 σ16 => b2 (f_M_puts (σ.1 20 0 0 j1) (iI 5) (iI (-1)) σ16) (fun v18 σ19 => b2 (f_M_puts (σ.1 20 0 0 j1) (iI 6) (iI 0) σ19) (fun v21 σ22 => Option.bind (rd (iI 2) 66) (fun j24 => Option.bind (rd (iI 2) 66) (fun j26 => some ((), upI σ22 20 0 0 j26 ((σ22.1 20 0 0 j24) + (iI 1)))))))))))))
theorem ok_M_addsCarpet (g : Gv) (x1 : Int32) (x2 : Int32) (σ : Sg) (r : Unit × Sg) (hf : f_M_addsCarpet x1 x2 σ = some r) : Ok g y_M_addsCarpet c_M_addsCarpet 4 none 1 [.ref (gAd g (6, 0, 0)), .int x1, .int x2] σ (none, r.2) := by
  unfold f_M_addsCarpet at hf
  refine Ok.of [(0, .ref (gAd g (6, 0, 0))), (1, .int x1), (2, .int x2)] (by decide) (Nat.le_of_ble_eq_true rfl) rfl ?_
  intro x hc
  have hc : Zc x g c_M_addsCarpet R_M 4 none 1 := hc
  obtain ⟨ρ, hρ⟩ : ∃ ρ : Option Value × Sg, ρ = (none, r.2) := ⟨_, rfl⟩
  rw [← hρ]
  refine z_aload_n hc d_M_addsCarpet_0 0 rfl ?_
  refine gf_M_9 hc d_M_addsCarpet_1  ?_
  refine z_iconst (v := (iI 2)) hc d_M_addsCarpet_4 (by decide) ?_
  obtain ⟨j1, hj2, hf⟩ := bd hf
  refine ald_ms hc d_M_addsCarpet_5  hj2 ?_
  refine z_istore_n (L' := [(3, .int (σ.1 20 0 0 j1)), (0, .ref (gAd g (6, 0, 0))), (1, .int x1), (2, .int x2)]) hc d_M_addsCarpet_6 (by decide) rfl ?_
  refine z_aload_n hc d_M_addsCarpet_7 1 rfl ?_
  refine z_iload_n hc d_M_addsCarpet_8 0 rfl ?_
  refine z_iconst (v := (iI 0)) hc d_M_addsCarpet_9 (by decide) ?_
  refine z_iload_n hc d_M_addsCarpet_10 2 rfl ?_
  obtain ⟨v3, σ4, h5, hf⟩ := bd2 hf
  refine cz_M_78 hc d_M_addsCarpet_11 (by decide)  h5 (Nat.le_of_ble_eq_true rfl) ?_
  refine z_aload_n hc d_M_addsCarpet_14 1 rfl ?_
  refine z_iload_n hc d_M_addsCarpet_15 0 rfl ?_
  refine z_iconst (v := (iI 1)) hc d_M_addsCarpet_16 (by decide) ?_
  refine z_iload_n hc d_M_addsCarpet_17 3 rfl ?_
  obtain ⟨v6, σ7, h8, hf⟩ := bd2 hf
  refine cz_M_78 hc d_M_addsCarpet_18 (by decide)  h8 (Nat.le_of_ble_eq_true rfl) ?_
  refine z_aload_n hc d_M_addsCarpet_21 1 rfl ?_
  refine z_iload_n hc d_M_addsCarpet_22 0 rfl ?_
  refine z_iconst (v := (iI 2)) hc d_M_addsCarpet_23 (by decide) ?_
  refine z_bipush (v := (iI 8)) hc d_M_addsCarpet_24 (by decide) ?_
  obtain ⟨v9, σ10, h11, hf⟩ := bd2 hf
  refine cz_M_78 hc d_M_addsCarpet_26 (by decide)  h11 (Nat.le_of_ble_eq_true rfl) ?_
  refine z_aload_n hc d_M_addsCarpet_29 1 rfl ?_
  refine z_iload_n hc d_M_addsCarpet_30 0 rfl ?_
  refine z_iconst (v := (iI 3)) hc d_M_addsCarpet_31 (by decide) ?_
  refine z_bipush (v := (iI 50)) hc d_M_addsCarpet_32 (by decide) ?_
  obtain ⟨v12, σ13, h14, hf⟩ := bd2 hf
  refine cz_M_78 hc d_M_addsCarpet_34 (by decide)  h14 (Nat.le_of_ble_eq_true rfl) ?_
  refine z_aload_n hc d_M_addsCarpet_37 1 rfl ?_
  refine z_iload_n hc d_M_addsCarpet_38 0 rfl ?_
  refine z_iconst (v := (iI 4)) hc d_M_addsCarpet_39 (by decide) ?_
  refine z_iconst (v := (iI 0)) hc d_M_addsCarpet_40 (by decide) ?_
  obtain ⟨v15, σ16, h17, hf⟩ := bd2 hf
  refine cz_M_78 hc d_M_addsCarpet_41 (by decide)  h17 (Nat.le_of_ble_eq_true rfl) ?_
  refine z_aload_n hc d_M_addsCarpet_44 1 rfl ?_
  refine z_iload_n hc d_M_addsCarpet_45 0 rfl ?_
  refine z_iconst (v := (iI 5)) hc d_M_addsCarpet_46 (by decide) ?_
  refine z_iconst (v := (iI (-1))) hc d_M_addsCarpet_47 (by decide) ?_
  obtain ⟨v18, σ19, h20, hf⟩ := bd2 hf
  refine cz_M_78 hc d_M_addsCarpet_48 (by decide)  h20 (Nat.le_of_ble_eq_true rfl) ?_
  refine z_aload_n hc d_M_addsCarpet_51 1 rfl ?_
  refine z_iload_n hc d_M_addsCarpet_52 0 rfl ?_
  refine z_bipush (v := (iI 6)) hc d_M_addsCarpet_53 (by decide) ?_
  refine z_iconst (v := (iI 0)) hc d_M_addsCarpet_55 (by decide) ?_
  obtain ⟨v21, σ22, h23, hf⟩ := bd2 hf
  refine cz_M_78 hc d_M_addsCarpet_56 (by decide)  h23 (Nat.le_of_ble_eq_true rfl) ?_
  refine z_aload_n hc d_M_addsCarpet_59 1 rfl ?_
  refine gf_M_9 hc d_M_addsCarpet_60  ?_
  refine z_iconst (v := (iI 2)) hc d_M_addsCarpet_63 (by decide) ?_
  refine z_dup2 hc d_M_addsCarpet_64 rfl rfl ?_
  obtain ⟨j24, hj25, hf⟩ := bd hf
  refine ald_ms hc d_M_addsCarpet_65  hj25 ?_
  refine z_iconst (v := (iI 1)) hc d_M_addsCarpet_66 (by decide) ?_
  refine z_iadd hc d_M_addsCarpet_67 ?_
  obtain ⟨j26, hj27, hf⟩ := bd hf
  refine ast_ms hc d_M_addsCarpet_68  hj27 ?_
  exact z_vret hc d_M_addsCarpet_69 (rV hf hρ)
theorem vl_M_109 : VL R_M 109 y_M_addsCarpet c_M_addsCarpet 4 none 2 := ⟨tb5 23 (by decide +kernel) (by decide +kernel), tb5 25 (by decide +kernel) (by decide +kernel), tbp 20 (by decide +kernel), tb1 12 (by decide +kernel) (by decide +kernel), k_M_addsCarpet, by decide, by decide, by decide +kernel, by decide⟩
theorem cz_M_109 {x : Cx} {g : Gv} {cc : ByteArray} {nL d pc : Nat} {ret : Option FieldType} {ρ : Option Value × Sg} {L : List (Nat × Value)} {st : List Value} {σ : Sg} (hc : Zc x g cc R_M nL ret d) (hd : decode cc pc = .ok (.invokevirtual 109, 3)) (hdd : 2 ≤ d) {x1 : Int32} {x2 : Int32} {v : Unit} {σ1 : Sg} (hf : f_M_addsCarpet x1 x2 σ = some (v, σ1)) (hst : (st.map (fun v => v.category)).sum ≤ 8) (k : Z x g nL ρ (pc + 3) L (st) σ1) : Z x g nL ρ pc L (.int x2 :: .int x1 :: .ref (gAd g (6, 0, 0)) :: st) σ := z_callV (ci := 11) (As := [.int x1, .int x2]) hc hd vl_M_109 hdd (6, 0, 0) (dm_M) rfl rfl (ok_M_addsCarpet g x1 x2 σ (v, σ1) hf) rfl rfl hst rfl k
def j_M_carpet_18 (σ : Sg) : Option (Int32 × Sg) :=
  b2 (f_M_no (iI 0) σ) (fun v4 σ5 => some (v4, σ5))
theorem sj_M_carpet_18 {x : Cx} {g : Gv} {ρ : Option Value × Sg} (hc : Zc x g c_M_carpet R_M 3 (some .int) 2) (σ : Sg) (r : Int32 × Sg) (hf : j_M_carpet_18 σ = some r) (hρ : ρ = (some (.int r.1), r.2)) : Z x g 3 ρ 18 [(0, .ref (gAd g (6, 0, 0)))] [] σ := by
  unfold j_M_carpet_18 at hf
  refine z_aload_n hc d_M_carpet_18 0 rfl ?_
  refine z_iconst (v := (iI 0)) hc d_M_carpet_19 (by decide) ?_
  obtain ⟨v4, σ5, h6, hf⟩ := bd2 hf
  refine cz_M_92 hc d_M_carpet_20 (by decide)  h6 (Nat.le_of_ble_eq_true rfl) ?_
  exact z_iret hc d_M_carpet_23 (rI hf hρ)
def f_M_carpet (x1 : Int32) (x2 : Int32) (σ : Sg) : Option (Int32 × Sg) :=
  b2 (f_M_in1 x1 (iI 0) (iI 5) σ) (fun v1 σ2 => (if v1 = (iI 0) then j_M_carpet_18   σ2 else b2 (f_M_in1 x2 (iI 0) (iI 3) σ2) (fun v7 σ8 => (if v7 = (iI 0) then j_M_carpet_18   σ8 else Option.bind (rd (iI 2) 66) (fun j10 => (if (σ8.1 20 0 0 j10) = (iI 8) then b2 (f_M_no (iI 1) σ8) (fun v17 σ18 => some (v17, σ18)) else b2 (f_M_addsCarpet x1 x2 σ8) (fun v12 σ13 => Option.bind (rd (iI 2) 66) (fun j15 => some ((σ13.1 20 0 0 j15) - (iI 1), σ13)))))))))
theorem ok_M_carpet (g : Gv) (x1 : Int32) (x2 : Int32) (σ : Sg) (r : Int32 × Sg) (hf : f_M_carpet x1 x2 σ = some r) : Ok g y_M_carpet c_M_carpet 3 (some .int) 2 [.ref (gAd g (6, 0, 0)), .int x1, .int x2] σ (some (.int r.1), r.2) := by
  unfold f_M_carpet at hf
  refine Ok.of [(0, .ref (gAd g (6, 0, 0))), (1, .int x1), (2, .int x2)] (by decide) (Nat.le_of_ble_eq_true rfl) rfl ?_
  intro x hc
  have hc : Zc x g c_M_carpet R_M 3 (some .int) 2 := hc
  obtain ⟨ρ, hρ⟩ : ∃ ρ : Option Value × Sg, ρ = (some (.int r.1), r.2) := ⟨_, rfl⟩
  rw [← hρ]
  refine z_iload_n hc d_M_carpet_0 1 rfl ?_
  refine z_iconst (v := (iI 0)) hc d_M_carpet_1 (by decide) ?_
  refine z_iconst (v := (iI 5)) hc d_M_carpet_2 (by decide) ?_
  obtain ⟨v1, σ2, h3, hf⟩ := bd2 hf
  refine cz_M_49 hc d_M_carpet_3 (by decide)  h3 (Nat.le_of_ble_eq_true rfl) ?_
  refine z_if_eq (tgt := 18) hc d_M_carpet_6 (by decide) (fun hq => ?_) (fun hq => ?_)
  · have hf := ifp hq hf
    refine z_sub [0] (L' := [(0, .ref (gAd g (6, 0, 0)))]) rfl ?_
    exact sj_M_carpet_18 hc     σ2 _ hf hρ
  · have hf := ifn hq hf
    refine z_iload_n hc d_M_carpet_9 2 rfl ?_
    refine z_iconst (v := (iI 0)) hc d_M_carpet_10 (by decide) ?_
    refine z_iconst (v := (iI 3)) hc d_M_carpet_11 (by decide) ?_
    obtain ⟨v7, σ8, h9, hf⟩ := bd2 hf
    refine cz_M_49 hc d_M_carpet_12 (by decide)  h9 (Nat.le_of_ble_eq_true rfl) ?_
    refine z_if_ne (tgt := 24) hc d_M_carpet_15 (by decide) (fun hq => ?_) (fun hq => ?_)
    · have hf := ifn hq hf
      refine z_aload_n hc d_M_carpet_24 0 rfl ?_
      refine gf_M_9 hc d_M_carpet_25  ?_
      refine z_iconst (v := (iI 2)) hc d_M_carpet_28 (by decide) ?_
      obtain ⟨j10, hj11, hf⟩ := bd hf
      refine ald_ms hc d_M_carpet_29  hj11 ?_
      refine z_bipush (v := (iI 8)) hc d_M_carpet_30 (by decide) ?_
      refine z_icmp_ne (tgt := 41) hc d_M_carpet_32 (by decide) (fun hq => ?_) (fun hq => ?_)
      · have hf := ifn hq hf
        refine z_aload_n hc d_M_carpet_41 0 rfl ?_
        refine z_iload_n hc d_M_carpet_42 1 rfl ?_
        refine z_iload_n hc d_M_carpet_43 2 rfl ?_
        obtain ⟨v12, σ13, h14, hf⟩ := bd2 hf
        refine cz_M_109 hc d_M_carpet_44 (by decide)  h14 (Nat.le_of_ble_eq_true rfl) ?_
        refine z_aload_n hc d_M_carpet_47 0 rfl ?_
        refine gf_M_9 hc d_M_carpet_48  ?_
        refine z_iconst (v := (iI 2)) hc d_M_carpet_51 (by decide) ?_
        obtain ⟨j15, hj16, hf⟩ := bd hf
        refine ald_ms hc d_M_carpet_52  hj16 ?_
        refine z_iconst (v := (iI 1)) hc d_M_carpet_53 (by decide) ?_
        refine z_isub hc d_M_carpet_54 ?_
        exact z_iret hc d_M_carpet_55 (rI hf hρ)
      · have hf := ifp hq hf
        refine z_aload_n hc d_M_carpet_35 0 rfl ?_
        refine z_iconst (v := (iI 1)) hc d_M_carpet_36 (by decide) ?_
        obtain ⟨v17, σ18, h19, hf⟩ := bd2 hf
        refine cz_M_92 hc d_M_carpet_37 (by decide)  h19 (Nat.le_of_ble_eq_true rfl) ?_
        exact z_iret hc d_M_carpet_40 (rI hf hρ)
    · have hf := ifp hq hf
      refine z_sub [0] (L' := [(0, .ref (gAd g (6, 0, 0)))]) rfl ?_
      exact sj_M_carpet_18 hc     σ8 _ hf hρ
theorem vl_M_113 : VL R_M 113 y_M_isCarpet c_M_isCarpet 2 (some .boolean) 1 := ⟨tb5 35 (by decide +kernel) (by decide +kernel), tb5 37 (by decide +kernel) (by decide +kernel), tbp 22 (by decide +kernel), tb1 12 (by decide +kernel) (by decide +kernel), k_M_isCarpet, by decide, by decide, by decide +kernel, by decide⟩
theorem cz_M_113 {x : Cx} {g : Gv} {cc : ByteArray} {nL d pc : Nat} {ret : Option FieldType} {ρ : Option Value × Sg} {L : List (Nat × Value)} {st : List Value} {σ : Sg} (hc : Zc x g cc R_M nL ret d) (hd : decode cc pc = .ok (.invokevirtual 113, 3)) (hdd : 2 ≤ d) {x1 : Int32} {v : Int32} {σ1 : Sg} (hf : f_M_isCarpet x1 σ = some (v, σ1)) (hst : (st.map (fun v => v.category)).sum ≤ 8) (k : Z x g nL ρ (pc + 3) L (.int v :: st) σ1) : Z x g nL ρ pc L (.int x1 :: .ref (gAd g (6, 0, 0)) :: st) σ := z_callV (ci := 11) (As := [.int x1]) hc hd vl_M_113 hdd (6, 0, 0) (dm_M) rfl rfl (ok_M_isCarpet g x1 σ (v, σ1) hf) rfl rfl hst rfl k
theorem vl_M_116 : VL R_M 116 y_M_beatenOf c_M_beatenOf 3 (some .int) 1 := ⟨tb5 47 (by decide +kernel) (by decide +kernel), tb5 49 (by decide +kernel) (by decide +kernel), tbp 25 (by decide +kernel), tb1 12 (by decide +kernel) (by decide +kernel), k_M_beatenOf, by decide, by decide, by decide +kernel, by decide⟩
theorem cz_M_116 {x : Cx} {g : Gv} {cc : ByteArray} {nL d pc : Nat} {ret : Option FieldType} {ρ : Option Value × Sg} {L : List (Nat × Value)} {st : List Value} {σ : Sg} (hc : Zc x g cc R_M nL ret d) (hd : decode cc pc = .ok (.invokevirtual 116, 3)) (hdd : 2 ≤ d) {x1 : Int32} {v : Int32} {σ1 : Sg} (hf : f_M_beatenOf x1 σ = some (v, σ1)) (hst : (st.map (fun v => v.category)).sum ≤ 8) (k : Z x g nL ρ (pc + 3) L (.int v :: st) σ1) : Z x g nL ρ pc L (.int x1 :: .ref (gAd g (6, 0, 0)) :: st) σ := z_callV (ci := 11) (As := [.int x1]) hc hd vl_M_116 hdd (6, 0, 0) (dm_M) rfl rfl (ok_M_beatenOf g x1 σ (v, σ1) hf) rfl rfl hst rfl k
def j_M_of_18 (σ : Sg) : Option (Int32 × Sg) :=
  b2 (f_M_no (iI 0) σ) (fun v4 σ5 => some (v4, σ5))
theorem sj_M_of_18 {x : Cx} {g : Gv} {ρ : Option Value × Sg} (hc : Zc x g c_M_of R_M 3 (some .int) 2) (σ : Sg) (r : Int32 × Sg) (hf : j_M_of_18 σ = some r) (hρ : ρ = (some (.int r.1), r.2)) : Z x g 3 ρ 18 [(0, .ref (gAd g (6, 0, 0)))] [] σ := by
  unfold j_M_of_18 at hf
  refine z_aload_n hc d_M_of_18 0 rfl ?_
  refine z_iconst (v := (iI 0)) hc d_M_of_19 (by decide) ?_
  obtain ⟨v4, σ5, h6, hf⟩ := bd2 hf
  refine cz_M_92 hc d_M_of_20 (by decide)  h6 (Nat.le_of_ble_eq_true rfl) ?_
  exact z_iret hc d_M_of_23 (rI hf hρ)
def f_M_of (x1 : Int32) (x2 : Int32) (σ : Sg) : Option (Int32 × Sg) :=
  b2 (f_M_isCarpet x1 σ) (fun v1 σ2 => (if v1 = (iI 0) then j_M_of_18   σ2 else b2 (f_M_in1 x2 (iI 0) (iI 9) σ2) (fun v7 σ8 => (if v7 = (iI 0) then j_M_of_18   σ8 else (if x2 = (iI 6) then b2 (f_M_reachOf x1 σ8) (fun v10 σ11 => some (v10, σ11)) else (if x2 = (iI 7) then b2 (f_M_wearsOf x1 σ8) (fun v13 σ14 => some (v13, σ14)) else (if x2 = (iI 8) then b2 (f_M_breedsOf x1 σ8) (fun v16 σ17 => some (v16, σ17)) else (if x2 = (iI 9) then b2 (f_M_beatenOf x1 σ8) (fun v19 σ20 => some (v19, σ20)) else b2 (f_M_get x1 x2 σ8) (fun v22 σ23 => some (v22, σ23))))))))))
theorem ok_M_of (g : Gv) (x1 : Int32) (x2 : Int32) (σ : Sg) (r : Int32 × Sg) (hf : f_M_of x1 x2 σ = some r) : Ok g y_M_of c_M_of 3 (some .int) 2 [.ref (gAd g (6, 0, 0)), .int x1, .int x2] σ (some (.int r.1), r.2) := by
  unfold f_M_of at hf
  refine Ok.of [(0, .ref (gAd g (6, 0, 0))), (1, .int x1), (2, .int x2)] (by decide) (Nat.le_of_ble_eq_true rfl) rfl ?_
  intro x hc
  have hc : Zc x g c_M_of R_M 3 (some .int) 2 := hc
  obtain ⟨ρ, hρ⟩ : ∃ ρ : Option Value × Sg, ρ = (some (.int r.1), r.2) := ⟨_, rfl⟩
  rw [← hρ]
  refine z_aload_n hc d_M_of_0 0 rfl ?_
  refine z_iload_n hc d_M_of_1 1 rfl ?_
  obtain ⟨v1, σ2, h3, hf⟩ := bd2 hf
  refine cz_M_113 hc d_M_of_2 (by decide)  h3 (Nat.le_of_ble_eq_true rfl) ?_
  refine z_if_eq (tgt := 18) hc d_M_of_5 (by decide) (fun hq => ?_) (fun hq => ?_)
  · have hf := ifp hq hf
    refine z_sub [0] (L' := [(0, .ref (gAd g (6, 0, 0)))]) rfl ?_
    exact sj_M_of_18 hc     σ2 _ hf hρ
  · have hf := ifn hq hf
    refine z_iload_n hc d_M_of_8 2 rfl ?_
    refine z_iconst (v := (iI 0)) hc d_M_of_9 (by decide) ?_
    refine z_bipush (v := (iI 9)) hc d_M_of_10 (by decide) ?_
    obtain ⟨v7, σ8, h9, hf⟩ := bd2 hf
    refine cz_M_49 hc d_M_of_12 (by decide)  h9 (Nat.le_of_ble_eq_true rfl) ?_
    refine z_if_ne (tgt := 24) hc d_M_of_15 (by decide) (fun hq => ?_) (fun hq => ?_)
    · have hf := ifn hq hf
      refine z_iload_n hc d_M_of_24 2 rfl ?_
      by_cases hq0 : x2 = (iI 6)
      · have hf := ifp hq0 hf
        refine z_tab (tgt := 56) (off := 31) (iI 6) hc d_M_of_25 hq0 (by decide) (by decide) (by decide) (by decide) ?_
        refine z_aload_n hc d_M_of_56 0 rfl ?_
        refine z_iload_n hc d_M_of_57 1 rfl ?_
        obtain ⟨v10, σ11, h12, hf⟩ := bd2 hf
        refine cz_M_61 hc d_M_of_58 (by decide)  h12 (Nat.le_of_ble_eq_true rfl) ?_
        exact z_iret hc d_M_of_61 (rI hf hρ)
      have hf := ifn hq0 hf
      by_cases hq1 : x2 = (iI 7)
      · have hf := ifp hq1 hf
        refine z_tab (tgt := 62) (off := 37) (iI 7) hc d_M_of_25 hq1 (by decide) (by decide) (by decide) (by decide) ?_
        refine z_aload_n hc d_M_of_62 0 rfl ?_
        refine z_iload_n hc d_M_of_63 1 rfl ?_
        obtain ⟨v13, σ14, h15, hf⟩ := bd2 hf
        refine cz_M_75 hc d_M_of_64 (by decide)  h15 (Nat.le_of_ble_eq_true rfl) ?_
        exact z_iret hc d_M_of_67 (rI hf hρ)
      have hf := ifn hq1 hf
      by_cases hq2 : x2 = (iI 8)
      · have hf := ifp hq2 hf
        refine z_tab (tgt := 68) (off := 43) (iI 8) hc d_M_of_25 hq2 (by decide) (by decide) (by decide) (by decide) ?_
        refine z_aload_n hc d_M_of_68 0 rfl ?_
        refine z_iload_n hc d_M_of_69 1 rfl ?_
        obtain ⟨v16, σ17, h18, hf⟩ := bd2 hf
        refine cz_M_82 hc d_M_of_70 (by decide)  h18 (Nat.le_of_ble_eq_true rfl) ?_
        exact z_iret hc d_M_of_73 (rI hf hρ)
      have hf := ifn hq2 hf
      by_cases hq3 : x2 = (iI 9)
      · have hf := ifp hq3 hf
        refine z_tab (tgt := 74) (off := 49) (iI 9) hc d_M_of_25 hq3 (by decide) (by decide) (by decide) (by decide) ?_
        refine z_aload_n hc d_M_of_74 0 rfl ?_
        refine z_iload_n hc d_M_of_75 1 rfl ?_
        obtain ⟨v19, σ20, h21, hf⟩ := bd2 hf
        refine cz_M_116 hc d_M_of_76 (by decide)  h21 (Nat.le_of_ble_eq_true rfl) ?_
        exact z_iret hc d_M_of_79 (rI hf hρ)
      have hf := ifn hq3 hf
      refine z_tabD (tgt := 80) 4 (by decide) hc d_M_of_25 (fun j hj => by match j, hj with | 0, _ => exact hq0 | 1, _ => exact hq1 | 2, _ => exact hq2 | 3, _ => exact hq3) (by decide) ?_
      refine z_aload_n hc d_M_of_80 0 rfl ?_
      refine z_iload_n hc d_M_of_81 1 rfl ?_
      refine z_iload_n hc d_M_of_82 2 rfl ?_
      obtain ⟨v22, σ23, h24, hf⟩ := bd2 hf
      refine cz_M_53 hc d_M_of_83 (by decide)  h24 (Nat.le_of_ble_eq_true rfl) ?_
      exact z_iret hc d_M_of_86 (rI hf hρ)
    · have hf := ifp hq hf
      refine z_sub [0] (L' := [(0, .ref (gAd g (6, 0, 0)))]) rfl ?_
      exact sj_M_of_18 hc     σ8 _ hf hρ
def j_M_set_69 (σ : Sg) : Option (Int32 × Sg) :=
  b2 (f_M_no (iI 0) σ) (fun v4 σ5 => some (v4, σ5))
theorem sj_M_set_69 {x : Cx} {g : Gv} {ρ : Option Value × Sg} (hc : Zc x g c_M_set R_M 6 (some .int) 2) (σ : Sg) (r : Int32 × Sg) (hf : j_M_set_69 σ = some r) (hρ : ρ = (some (.int r.1), r.2)) : Z x g 6 ρ 69 [(0, .ref (gAd g (6, 0, 0)))] [] σ := by
  unfold j_M_set_69 at hf
  refine z_aload_n hc d_M_set_69 0 rfl ?_
  refine z_iconst (v := (iI 0)) hc d_M_set_70 (by decide) ?_
  obtain ⟨v4, σ5, h6, hf⟩ := bd2 hf
  refine cz_M_92 hc d_M_set_71 (by decide)  h6 (Nat.le_of_ble_eq_true rfl) ?_
  exact z_iret hc d_M_set_74 (rI hf hρ)
def j_M_set_61 (x1 : Int32) (x2 : Int32) (x3 : Int32) (x4 : Int32) (xs0 : Int32) (xs1 : Int32) (σ : Sg) : Option (Int32 × Sg) :=
  b2 (f_M_in1 xs1 xs0 x4 σ) (fun v10 σ11 => (if v10 = (iI 0) then j_M_set_69   σ11 else b2 (f_M_get x1 x2 σ11) (fun v13 σ14 => b2 (f_M_puts x1 x2 x3 σ14) (fun v16 σ17 => some (v13, σ17)))))
theorem sj_M_set_61 {x : Cx} {g : Gv} {ρ : Option Value × Sg} (hc : Zc x g c_M_set R_M 6 (some .int) 2) (x1 : Int32) (x2 : Int32) (x3 : Int32) (x4 : Int32) (xs0 : Int32) (xs1 : Int32) (σ : Sg) (r : Int32 × Sg) (hf : j_M_set_61 x1 x2 x3 x4 xs0 xs1 σ = some r) (hρ : ρ = (some (.int r.1), r.2)) : Z x g 6 ρ 61 [(0, .ref (gAd g (6, 0, 0))), (1, .int x1), (2, .int x2), (3, .int x3), (4, .int x4)] [.int xs0, .int xs1] σ := by
  unfold j_M_set_61 at hf
  refine z_iload hc d_M_set_61 4 rfl ?_
  obtain ⟨v10, σ11, h12, hf⟩ := bd2 hf
  refine cz_M_49 hc d_M_set_63 (by decide)  h12 (Nat.le_of_ble_eq_true rfl) ?_
  refine z_if_ne (tgt := 75) hc d_M_set_66 (by decide) (fun hq => ?_) (fun hq => ?_)
  · have hf := ifn hq hf
    refine z_aload_n hc d_M_set_75 0 rfl ?_
    refine z_iload_n hc d_M_set_76 1 rfl ?_
    refine z_iload_n hc d_M_set_77 2 rfl ?_
    obtain ⟨v13, σ14, h15, hf⟩ := bd2 hf
    refine cz_M_53 hc d_M_set_78 (by decide)  h15 (Nat.le_of_ble_eq_true rfl) ?_
    refine z_istore (L' := [(5, .int v13), (0, .ref (gAd g (6, 0, 0))), (1, .int x1), (2, .int x2), (3, .int x3), (4, .int x4)]) hc d_M_set_81 (by decide) rfl ?_
    refine z_aload_n hc d_M_set_83 1 rfl ?_
    refine z_iload_n hc d_M_set_84 2 rfl ?_
    refine z_iload_n hc d_M_set_85 3 rfl ?_
    refine z_iload_n hc d_M_set_86 4 rfl ?_
    obtain ⟨v16, σ17, h18, hf⟩ := bd2 hf
    refine cz_M_78 hc d_M_set_87 (by decide)  h18 (Nat.le_of_ble_eq_true rfl) ?_
    refine z_iload hc d_M_set_90 0 rfl ?_
    exact z_iret hc d_M_set_92 (rI hf hρ)
  · have hf := ifp hq hf
    refine z_sub [0] (L' := [(0, .ref (gAd g (6, 0, 0)))]) rfl ?_
    exact sj_M_set_69 hc     σ11 _ hf hρ
def j_M_set_31 (x1 : Int32) (x2 : Int32) (x3 : Int32) (xs0 : Int32) (σ : Sg) : Option (Int32 × Sg) :=
  b2 (f_M_isCarpet x1 σ) (fun v1 σ2 => (if v1 = (iI 0) then j_M_set_69   σ2 else b2 (f_M_in1 x2 (iI 1) (iI 4) σ2) (fun v7 σ8 => (if v7 = (iI 0) then j_M_set_69   σ8 else (if x2 = (iI 2) then j_M_set_61 x1 x2 x3 xs0 (iI 1) x3 σ8 else j_M_set_61 x1 x2 x3 xs0 (iI 0) x3 σ8)))))
theorem sj_M_set_31 {x : Cx} {g : Gv} {ρ : Option Value × Sg} (hc : Zc x g c_M_set R_M 6 (some .int) 2) (x1 : Int32) (x2 : Int32) (x3 : Int32) (xs0 : Int32) (σ : Sg) (r : Int32 × Sg) (hf : j_M_set_31 x1 x2 x3 xs0 σ = some r) (hρ : ρ = (some (.int r.1), r.2)) : Z x g 6 ρ 31 [(0, .ref (gAd g (6, 0, 0))), (1, .int x1), (2, .int x2), (3, .int x3)] [.int xs0] σ := by
  unfold j_M_set_31 at hf
  refine z_istore (L' := [(4, .int xs0), (0, .ref (gAd g (6, 0, 0))), (1, .int x1), (2, .int x2), (3, .int x3)]) hc d_M_set_31 (by decide) rfl ?_
  refine z_aload_n hc d_M_set_33 1 rfl ?_
  refine z_iload_n hc d_M_set_34 2 rfl ?_
  obtain ⟨v1, σ2, h3, hf⟩ := bd2 hf
  refine cz_M_113 hc d_M_set_35 (by decide)  h3 (Nat.le_of_ble_eq_true rfl) ?_
  refine z_if_eq (tgt := 69) hc d_M_set_38 (by decide) (fun hq => ?_) (fun hq => ?_)
  · have hf := ifp hq hf
    refine z_sub [1] (L' := [(0, .ref (gAd g (6, 0, 0)))]) rfl ?_
    exact sj_M_set_69 hc     σ2 _ hf hρ
  · have hf := ifn hq hf
    refine z_iload_n hc d_M_set_41 3 rfl ?_
    refine z_iconst (v := (iI 1)) hc d_M_set_42 (by decide) ?_
    refine z_iconst (v := (iI 4)) hc d_M_set_43 (by decide) ?_
    obtain ⟨v7, σ8, h9, hf⟩ := bd2 hf
    refine cz_M_49 hc d_M_set_44 (by decide)  h9 (Nat.le_of_ble_eq_true rfl) ?_
    refine z_if_eq (tgt := 69) hc d_M_set_47 (by decide) (fun hq => ?_) (fun hq => ?_)
    · have hf := ifp hq hf
      refine z_sub [1] (L' := [(0, .ref (gAd g (6, 0, 0)))]) rfl ?_
      exact sj_M_set_69 hc     σ8 _ hf hρ
    · have hf := ifn hq hf
      refine z_iload_n hc d_M_set_50 4 rfl ?_
      refine z_iload_n hc d_M_set_51 3 rfl ?_
      refine z_iconst (v := (iI 2)) hc d_M_set_52 (by decide) ?_
      refine z_icmp_ne (tgt := 60) hc d_M_set_53 (by decide) (fun hq => ?_) (fun hq => ?_)
      · have hf := ifn hq hf
        refine z_iconst (v := (iI 0)) hc d_M_set_60 (by decide) ?_
        refine z_sub [1, 2, 3, 4, 0] (L' := [(0, .ref (gAd g (6, 0, 0))), (1, .int x1), (2, .int x2), (3, .int x3), (4, .int xs0)]) rfl ?_
        exact sj_M_set_61 hc x1 x2 x3 xs0 (iI 0) x3   σ8 _ hf hρ
      · have hf := ifp hq hf
        refine z_iconst (v := (iI 1)) hc d_M_set_56 (by decide) ?_
        refine z_goto (tgt := 61) hc d_M_set_57 (by decide) ?_
        refine z_sub [1, 2, 3, 4, 0] (L' := [(0, .ref (gAd g (6, 0, 0))), (1, .int x1), (2, .int x2), (3, .int x3), (4, .int xs0)]) rfl ?_
        exact sj_M_set_61 hc x1 x2 x3 xs0 (iI 1) x3   σ8 _ hf hρ
def f_M_set (x1 : Int32) (x2 : Int32) (x3 : Int32) (σ : Sg) : Option (Int32 × Sg) :=
  (if x2 = (iI 1) then j_M_set_31 x1 x2 x3 (iI 3) σ else (if x2 = (iI 2) then j_M_set_31 x1 x2 x3 (iI 20) σ else (if x2 = (iI 3) then j_M_set_31 x1 x2 x3 (iI 99) σ else j_M_set_31 x1 x2 x3 (iI 9) σ)))
theorem ok_M_set (g : Gv) (x1 : Int32) (x2 : Int32) (x3 : Int32) (σ : Sg) (r : Int32 × Sg) (hf : f_M_set x1 x2 x3 σ = some r) : Ok g y_M_set c_M_set 6 (some .int) 2 [.ref (gAd g (6, 0, 0)), .int x1, .int x2, .int x3] σ (some (.int r.1), r.2) := by
  unfold f_M_set at hf
  refine Ok.of [(0, .ref (gAd g (6, 0, 0))), (1, .int x1), (2, .int x2), (3, .int x3)] (by decide) (Nat.le_of_ble_eq_true rfl) rfl ?_
  intro x hc
  have hc : Zc x g c_M_set R_M 6 (some .int) 2 := hc
  obtain ⟨ρ, hρ⟩ : ∃ ρ : Option Value × Sg, ρ = (some (.int r.1), r.2) := ⟨_, rfl⟩
  rw [← hρ]
  refine z_iload_n hc d_M_set_0 2 rfl ?_
  refine z_iconst (v := (iI 1)) hc d_M_set_1 (by decide) ?_
  refine z_icmp_ne (tgt := 9) hc d_M_set_2 (by decide) (fun hq => ?_) (fun hq => ?_)
  · have hf := ifn hq hf
    refine z_iload_n hc d_M_set_9 2 rfl ?_
    refine z_iconst (v := (iI 2)) hc d_M_set_10 (by decide) ?_
    refine z_icmp_ne (tgt := 19) hc d_M_set_11 (by decide) (fun hq => ?_) (fun hq => ?_)
    · have hf := ifn hq hf
      refine z_iload_n hc d_M_set_19 2 rfl ?_
      refine z_iconst (v := (iI 3)) hc d_M_set_20 (by decide) ?_
      refine z_icmp_ne (tgt := 29) hc d_M_set_21 (by decide) (fun hq => ?_) (fun hq => ?_)
      · have hf := ifn hq hf
        refine z_bipush (v := (iI 9)) hc d_M_set_29 (by decide) ?_
        refine z_sub [0, 1, 2, 3] (L' := [(0, .ref (gAd g (6, 0, 0))), (1, .int x1), (2, .int x2), (3, .int x3)]) rfl ?_
        exact sj_M_set_31 hc x1 x2 x3 (iI 9)   σ _ hf hρ
      · have hf := ifp hq hf
        refine z_bipush (v := (iI 99)) hc d_M_set_24 (by decide) ?_
        refine z_goto (tgt := 31) hc d_M_set_26 (by decide) ?_
        refine z_sub [0, 1, 2, 3] (L' := [(0, .ref (gAd g (6, 0, 0))), (1, .int x1), (2, .int x2), (3, .int x3)]) rfl ?_
        exact sj_M_set_31 hc x1 x2 x3 (iI 99)   σ _ hf hρ
    · have hf := ifp hq hf
      refine z_bipush (v := (iI 20)) hc d_M_set_14 (by decide) ?_
      refine z_goto (tgt := 31) hc d_M_set_16 (by decide) ?_
      refine z_sub [0, 1, 2, 3] (L' := [(0, .ref (gAd g (6, 0, 0))), (1, .int x1), (2, .int x2), (3, .int x3)]) rfl ?_
      exact sj_M_set_31 hc x1 x2 x3 (iI 20)   σ _ hf hρ
  · have hf := ifp hq hf
    refine z_iconst (v := (iI 3)) hc d_M_set_5 (by decide) ?_
    refine z_goto (tgt := 31) hc d_M_set_6 (by decide) ?_
    refine z_sub [0, 1, 2, 3] (L' := [(0, .ref (gAd g (6, 0, 0))), (1, .int x1), (2, .int x2), (3, .int x3)]) rfl ?_
    exact sj_M_set_31 hc x1 x2 x3 (iI 3)   σ _ hf hρ
def j_M_turn_17 (σ : Sg) : Option (Int32 × Sg) :=
  b2 (f_M_no (iI 0) σ) (fun v4 σ5 => some (v4, σ5))
theorem sj_M_turn_17 {x : Cx} {g : Gv} {ρ : Option Value × Sg} (hc : Zc x g c_M_turn R_M 4 (some .int) 2) (σ : Sg) (r : Int32 × Sg) (hf : j_M_turn_17 σ = some r) (hρ : ρ = (some (.int r.1), r.2)) : Z x g 4 ρ 17 [(0, .ref (gAd g (6, 0, 0)))] [] σ := by
  unfold j_M_turn_17 at hf
  refine z_aload_n hc d_M_turn_17 0 rfl ?_
  refine z_iconst (v := (iI 0)) hc d_M_turn_18 (by decide) ?_
  obtain ⟨v4, σ5, h6, hf⟩ := bd2 hf
  refine cz_M_92 hc d_M_turn_19 (by decide)  h6 (Nat.le_of_ble_eq_true rfl) ?_
  exact z_iret hc d_M_turn_22 (rI hf hρ)
def f_M_turn (x1 : Int32) (x2 : Int32) (σ : Sg) : Option (Int32 × Sg) :=
  b2 (f_M_isCarpet x1 σ) (fun v1 σ2 => (if v1 = (iI 0) then j_M_turn_17   σ2 else b2 (f_M_in1 x2 (iI 0) (iI 5) σ2) (fun v7 σ8 => (if v7 = (iI 0) then j_M_turn_17   σ8 else b2 (f_M_get x1 (iI 0) σ8) (fun v10 σ11 => b2 (f_M_puts x1 (iI 0) x2 σ11) (fun v13 σ14 => some (v10, σ14)))))))
theorem ok_M_turn (g : Gv) (x1 : Int32) (x2 : Int32) (σ : Sg) (r : Int32 × Sg) (hf : f_M_turn x1 x2 σ = some r) : Ok g y_M_turn c_M_turn 4 (some .int) 2 [.ref (gAd g (6, 0, 0)), .int x1, .int x2] σ (some (.int r.1), r.2) := by
  unfold f_M_turn at hf
  refine Ok.of [(0, .ref (gAd g (6, 0, 0))), (1, .int x1), (2, .int x2)] (by decide) (Nat.le_of_ble_eq_true rfl) rfl ?_
  intro x hc
  have hc : Zc x g c_M_turn R_M 4 (some .int) 2 := hc
  obtain ⟨ρ, hρ⟩ : ∃ ρ : Option Value × Sg, ρ = (some (.int r.1), r.2) := ⟨_, rfl⟩
  rw [← hρ]
  refine z_aload_n hc d_M_turn_0 0 rfl ?_
  refine z_iload_n hc d_M_turn_1 1 rfl ?_
  obtain ⟨v1, σ2, h3, hf⟩ := bd2 hf
  refine cz_M_113 hc d_M_turn_2 (by decide)  h3 (Nat.le_of_ble_eq_true rfl) ?_
  refine z_if_eq (tgt := 17) hc d_M_turn_5 (by decide) (fun hq => ?_) (fun hq => ?_)
  · have hf := ifp hq hf
    refine z_sub [0] (L' := [(0, .ref (gAd g (6, 0, 0)))]) rfl ?_
    exact sj_M_turn_17 hc     σ2 _ hf hρ
  · have hf := ifn hq hf
    refine z_iload_n hc d_M_turn_8 2 rfl ?_
    refine z_iconst (v := (iI 0)) hc d_M_turn_9 (by decide) ?_
    refine z_iconst (v := (iI 5)) hc d_M_turn_10 (by decide) ?_
    obtain ⟨v7, σ8, h9, hf⟩ := bd2 hf
    refine cz_M_49 hc d_M_turn_11 (by decide)  h9 (Nat.le_of_ble_eq_true rfl) ?_
    refine z_if_ne (tgt := 23) hc d_M_turn_14 (by decide) (fun hq => ?_) (fun hq => ?_)
    · have hf := ifn hq hf
      refine z_aload_n hc d_M_turn_23 0 rfl ?_
      refine z_iload_n hc d_M_turn_24 1 rfl ?_
      refine z_iconst (v := (iI 0)) hc d_M_turn_25 (by decide) ?_
      obtain ⟨v10, σ11, h12, hf⟩ := bd2 hf
      refine cz_M_53 hc d_M_turn_26 (by decide)  h12 (Nat.le_of_ble_eq_true rfl) ?_
      refine z_istore_n (L' := [(3, .int v10), (0, .ref (gAd g (6, 0, 0))), (1, .int x1), (2, .int x2)]) hc d_M_turn_29 (by decide) rfl ?_
      refine z_aload_n hc d_M_turn_30 1 rfl ?_
      refine z_iload_n hc d_M_turn_31 2 rfl ?_
      refine z_iconst (v := (iI 0)) hc d_M_turn_32 (by decide) ?_
      refine z_iload_n hc d_M_turn_33 3 rfl ?_
      obtain ⟨v13, σ14, h15, hf⟩ := bd2 hf
      refine cz_M_78 hc d_M_turn_34 (by decide)  h15 (Nat.le_of_ble_eq_true rfl) ?_
      refine z_iload_n hc d_M_turn_37 0 rfl ?_
      exact z_iret hc d_M_turn_38 (rI hf hρ)
    · have hf := ifp hq hf
      refine z_sub [0] (L' := [(0, .ref (gAd g (6, 0, 0)))]) rfl ?_
      exact sj_M_turn_17 hc     σ8 _ hf hρ
def j_M_as_17 (σ : Sg) : Option (Int32 × Sg) :=
  b2 (f_M_no (iI 0) σ) (fun v4 σ5 => some (v4, σ5))
theorem sj_M_as_17 {x : Cx} {g : Gv} {ρ : Option Value × Sg} (hc : Zc x g c_M_as R_M 4 (some .int) 2) (σ : Sg) (r : Int32 × Sg) (hf : j_M_as_17 σ = some r) (hρ : ρ = (some (.int r.1), r.2)) : Z x g 4 ρ 17 [(0, .ref (gAd g (6, 0, 0)))] [] σ := by
  unfold j_M_as_17 at hf
  refine z_aload_n hc d_M_as_17 0 rfl ?_
  refine z_iconst (v := (iI 0)) hc d_M_as_18 (by decide) ?_
  obtain ⟨v4, σ5, h6, hf⟩ := bd2 hf
  refine cz_M_92 hc d_M_as_19 (by decide)  h6 (Nat.le_of_ble_eq_true rfl) ?_
  exact z_iret hc d_M_as_22 (rI hf hρ)
def b_M_as_30 (x1 : Int32) (x2 : Int32) (x3 : Int32) (σ : Sg) : Option ((Int32 × Sg) ⊕ (Int32 × Sg)) :=
  (if x3 = x2 then some (.inr (x3, σ)) else (if x3 = (iI 0) then some (.inr (x3, σ)) else (if x3 = (iI 4) then some (.inl ((iI 1), σ)) else (if x3 = (iI 5) then some (.inl ((iI 2), σ)) else some (.inl ((iI 0), σ))))))
theorem sb_M_as_30 {x : Cx} {g : Gv} {ρ : Option Value × Sg} (hc : Zc x g c_M_as R_M 4 (some .int) 2) (x1 : Int32) (x2 : Int32) (x3 : Int32) (σ : Sg) (r : (Int32 × Sg) ⊕ (Int32 × Sg)) (hf : b_M_as_30 x1 x2 x3 σ = some r) (hi : ∀ a', r = .inl a' → Z x g 4 ρ 30 [(0, .ref (gAd g (6, 0, 0))), (1, .int x1), (2, .int x2), (3, .int a'.1)] [] a'.2) (he0 : ∀ b, r = .inr b → Z x g 4 ρ 62 [(0, .ref (gAd g (6, 0, 0))), (1, .int x1), (2, .int x2), (3, .int b.1)] [] b.2) : Z x g 4 ρ 30 [(0, .ref (gAd g (6, 0, 0))), (1, .int x1), (2, .int x2), (3, .int x3)] [] σ := by
  unfold b_M_as_30 at hf
  refine z_iload_n hc d_M_as_30 3 rfl ?_
  refine z_iload_n hc d_M_as_31 2 rfl ?_
  refine z_icmp_eq (tgt := 62) hc d_M_as_32 (by decide) (fun hq => ?_) (fun hq => ?_)
  · have hf := ifp hq hf
    refine z_sub [0, 1, 2, 3] (L' := [(0, .ref (gAd g (6, 0, 0))), (1, .int x1), (2, .int x2), (3, .int x3)]) rfl ?_
    exact he0 (x3, σ) (Option.some.inj hf).symm
  · have hf := ifn hq hf
    refine z_iload_n hc d_M_as_35 3 rfl ?_
    refine z_if_eq (tgt := 62) hc d_M_as_36 (by decide) (fun hq => ?_) (fun hq => ?_)
    · have hf := ifp hq hf
      refine z_sub [0, 1, 2, 3] (L' := [(0, .ref (gAd g (6, 0, 0))), (1, .int x1), (2, .int x2), (3, .int x3)]) rfl ?_
      exact he0 (x3, σ) (Option.some.inj hf).symm
    · have hf := ifn hq hf
      refine z_iload_n hc d_M_as_39 3 rfl ?_
      refine z_iconst (v := (iI 4)) hc d_M_as_40 (by decide) ?_
      refine z_icmp_ne (tgt := 48) hc d_M_as_41 (by decide) (fun hq => ?_) (fun hq => ?_)
      · have hf := ifn hq hf
        refine z_iload_n hc d_M_as_48 3 rfl ?_
        refine z_iconst (v := (iI 5)) hc d_M_as_49 (by decide) ?_
        refine z_icmp_ne (tgt := 57) hc d_M_as_50 (by decide) (fun hq => ?_) (fun hq => ?_)
        · have hf := ifn hq hf
          refine z_iconst (v := (iI 0)) hc d_M_as_57 (by decide) ?_
          refine z_istore_n (L' := [(3, .int (iI 0)), (0, .ref (gAd g (6, 0, 0))), (1, .int x1), (2, .int x2)]) hc d_M_as_58 (by decide) rfl ?_
          refine z_goto (tgt := 30) hc d_M_as_59 (by decide) ?_
          refine z_sub [1, 2, 3, 0] (L' := [(0, .ref (gAd g (6, 0, 0))), (1, .int x1), (2, .int x2), (3, .int (iI 0))]) rfl ?_
          exact hi ((iI 0), σ) (Option.some.inj hf).symm
        · have hf := ifp hq hf
          refine z_iconst (v := (iI 2)) hc d_M_as_53 (by decide) ?_
          refine z_goto (tgt := 58) hc d_M_as_54 (by decide) ?_
          refine z_istore_n (L' := [(3, .int (iI 2)), (0, .ref (gAd g (6, 0, 0))), (1, .int x1), (2, .int x2)]) hc d_M_as_58 (by decide) rfl ?_
          refine z_goto (tgt := 30) hc d_M_as_59 (by decide) ?_
          refine z_sub [1, 2, 3, 0] (L' := [(0, .ref (gAd g (6, 0, 0))), (1, .int x1), (2, .int x2), (3, .int (iI 2))]) rfl ?_
          exact hi ((iI 2), σ) (Option.some.inj hf).symm
      · have hf := ifp hq hf
        refine z_iconst (v := (iI 1)) hc d_M_as_44 (by decide) ?_
        refine z_goto (tgt := 58) hc d_M_as_45 (by decide) ?_
        refine z_istore_n (L' := [(3, .int (iI 1)), (0, .ref (gAd g (6, 0, 0))), (1, .int x1), (2, .int x2)]) hc d_M_as_58 (by decide) rfl ?_
        refine z_goto (tgt := 30) hc d_M_as_59 (by decide) ?_
        refine z_sub [1, 2, 3, 0] (L' := [(0, .ref (gAd g (6, 0, 0))), (1, .int x1), (2, .int x2), (3, .int (iI 1))]) rfl ?_
        exact hi ((iI 1), σ) (Option.some.inj hf).symm
def j_M_as_62 (x1 : Int32) (x2 : Int32) (x3 : Int32) (σ : Sg) : Option (Int32 × Sg) :=
  (if x3 = x2 then b2 (f_M_get x1 (iI 3) σ) (fun v19 σ20 => some (v19, σ20)) else b2 (f_M_no (iI 2) σ) (fun v16 σ17 => some (v16, σ17)))
theorem sj_M_as_62 {x : Cx} {g : Gv} {ρ : Option Value × Sg} (hc : Zc x g c_M_as R_M 4 (some .int) 2) (x1 : Int32) (x2 : Int32) (x3 : Int32) (σ : Sg) (r : Int32 × Sg) (hf : j_M_as_62 x1 x2 x3 σ = some r) (hρ : ρ = (some (.int r.1), r.2)) : Z x g 4 ρ 62 [(0, .ref (gAd g (6, 0, 0))), (1, .int x1), (2, .int x2), (3, .int x3)] [] σ := by
  unfold j_M_as_62 at hf
  refine z_iload_n hc d_M_as_62 3 rfl ?_
  refine z_iload_n hc d_M_as_63 2 rfl ?_
  refine z_icmp_ne (tgt := 76) hc d_M_as_64 (by decide) (fun hq => ?_) (fun hq => ?_)
  · have hf := ifn hq hf
    refine z_aload_n hc d_M_as_76 0 rfl ?_
    refine z_iconst (v := (iI 2)) hc d_M_as_77 (by decide) ?_
    obtain ⟨v16, σ17, h18, hf⟩ := bd2 hf
    refine cz_M_92 hc d_M_as_78 (by decide)  h18 (Nat.le_of_ble_eq_true rfl) ?_
    exact z_iret hc d_M_as_81 (rI hf hρ)
  · have hf := ifp hq hf
    refine z_aload_n hc d_M_as_67 0 rfl ?_
    refine z_iload_n hc d_M_as_68 1 rfl ?_
    refine z_iconst (v := (iI 3)) hc d_M_as_69 (by decide) ?_
    obtain ⟨v19, σ20, h21, hf⟩ := bd2 hf
    refine cz_M_53 hc d_M_as_70 (by decide)  h21 (Nat.le_of_ble_eq_true rfl) ?_
    refine z_goto (tgt := 81) hc d_M_as_73 (by decide) ?_
    exact z_iret hc d_M_as_81 (rI hf hρ)
def f_M_as (x1 : Int32) (x2 : Int32) (σ : Sg) : Option (Int32 × Sg) :=
  b2 (f_M_isCarpet x1 σ) (fun v1 σ2 => (if v1 = (iI 0) then j_M_as_17   σ2 else b2 (f_M_in1 x2 (iI 0) (iI 5) σ2) (fun v7 σ8 => (if v7 = (iI 0) then j_M_as_17   σ8 else b2 (f_M_get x1 (iI 0) σ8) (fun v10 σ11 => Option.bind (lp (fun a => b_M_as_30 x1 x2 a.1 a.2) FU (v10, σ11)) (fun b22 => j_M_as_62 x1 x2 b22.1  b22.2))))))
theorem ok_M_as (g : Gv) (x1 : Int32) (x2 : Int32) (σ : Sg) (r : Int32 × Sg) (hf : f_M_as x1 x2 σ = some r) : Ok g y_M_as c_M_as 4 (some .int) 2 [.ref (gAd g (6, 0, 0)), .int x1, .int x2] σ (some (.int r.1), r.2) := by
  unfold f_M_as at hf
  refine Ok.of [(0, .ref (gAd g (6, 0, 0))), (1, .int x1), (2, .int x2)] (by decide) (Nat.le_of_ble_eq_true rfl) rfl ?_
  intro x hc
  have hc : Zc x g c_M_as R_M 4 (some .int) 2 := hc
  obtain ⟨ρ, hρ⟩ : ∃ ρ : Option Value × Sg, ρ = (some (.int r.1), r.2) := ⟨_, rfl⟩
  rw [← hρ]
  refine z_aload_n hc d_M_as_0 0 rfl ?_
  refine z_iload_n hc d_M_as_1 1 rfl ?_
  obtain ⟨v1, σ2, h3, hf⟩ := bd2 hf
  refine cz_M_113 hc d_M_as_2 (by decide)  h3 (Nat.le_of_ble_eq_true rfl) ?_
  refine z_if_eq (tgt := 17) hc d_M_as_5 (by decide) (fun hq => ?_) (fun hq => ?_)
  · have hf := ifp hq hf
    refine z_sub [0] (L' := [(0, .ref (gAd g (6, 0, 0)))]) rfl ?_
    exact sj_M_as_17 hc     σ2 _ hf hρ
  · have hf := ifn hq hf
    refine z_iload_n hc d_M_as_8 2 rfl ?_
    refine z_iconst (v := (iI 0)) hc d_M_as_9 (by decide) ?_
    refine z_iconst (v := (iI 5)) hc d_M_as_10 (by decide) ?_
    obtain ⟨v7, σ8, h9, hf⟩ := bd2 hf
    refine cz_M_49 hc d_M_as_11 (by decide)  h9 (Nat.le_of_ble_eq_true rfl) ?_
    refine z_if_ne (tgt := 23) hc d_M_as_14 (by decide) (fun hq => ?_) (fun hq => ?_)
    · have hf := ifn hq hf
      refine z_aload_n hc d_M_as_23 0 rfl ?_
      refine z_iload_n hc d_M_as_24 1 rfl ?_
      refine z_iconst (v := (iI 0)) hc d_M_as_25 (by decide) ?_
      obtain ⟨v10, σ11, h12, hf⟩ := bd2 hf
      refine cz_M_53 hc d_M_as_26 (by decide)  h12 (Nat.le_of_ble_eq_true rfl) ?_
      refine z_istore_n (L' := [(3, .int v10), (0, .ref (gAd g (6, 0, 0))), (1, .int x1), (2, .int x2)]) hc d_M_as_29 (by decide) rfl ?_
      refine z_sub [1, 2, 3, 0] (L' := [(0, .ref (gAd g (6, 0, 0))), (1, .int x1), (2, .int x2), (3, .int v10)]) rfl ?_
      obtain ⟨⟨y14, σ15⟩, hl23, hf⟩ := bd hf
      try dsimp only at hf
      refine lp_walk (α := (Int32 × Sg)) (β := (Int32 × Sg)) (body := (fun a : (Int32 × Sg) => b_M_as_30 x1 x2 a.1 a.2)) (In := (fun a : (Int32 × Sg) => Z x g 4 ρ 30 [(0, .ref (gAd g (6, 0, 0))), (1, .int x1), (2, .int x2), (3, .int a.1)] [] a.2)) (Out := (fun b => Z x g 4 ρ 62 [(0, .ref (gAd g (6, 0, 0))), (1, .int x1), (2, .int x2), (3, .int b.1)] [] b.2)) (fun a r hb hi ho => sb_M_as_30 hc x1 x2  a.1 a.2 r hb hi (fun b e => ho _ e)) FU (v10, σ11) _ hl23 ?_
      dsimp only
      refine z_sub [0, 1, 2, 3] (L' := [(0, .ref (gAd g (6, 0, 0))), (1, .int x1), (2, .int x2), (3, .int y14)]) rfl ?_
      exact sj_M_as_62 hc x1 x2 y14    σ15 _ hf hρ
    · have hf := ifp hq hf
      refine z_sub [0] (L' := [(0, .ref (gAd g (6, 0, 0)))]) rfl ?_
      exact sj_M_as_17 hc     σ8 _ hf hρ
def f_M_rollsOut (x1 : Int32) (x2 : Int32) (σ : Sg) : Option (Unit × Sg) :=
  Option.bind (rd (iI 1) 66) (fun j1 => b2 (f_M_less (iI 99999) ((σ.1 20 0 0 j1) + (iI 1)) σ) (fun v3 σ4 => Option.bind (rd (iI 1) 66) (fun j6 => b2 (f_M_puts x1 (iI 5) x2 (upI σ4 20 0 0 j6 v3)) (fun v8 σ9 => Option.bind (rd (iI 1) 66) (fun j11 => b2 (f_M_puts x1 (iI 6) (σ9.1 20 0 0 j11) σ9) (fun v13 σ14 => some ((), σ14)))))))
theorem ok_M_rollsOut (g : Gv) (x1 : Int32) (x2 : Int32) (σ : Sg) (r : Unit × Sg) (hf : f_M_rollsOut x1 x2 σ = some r) : Ok g y_M_rollsOut c_M_rollsOut 3 none 1 [.ref (gAd g (6, 0, 0)), .int x1, .int x2] σ (none, r.2) := by
  unfold f_M_rollsOut at hf
  refine Ok.of [(0, .ref (gAd g (6, 0, 0))), (1, .int x1), (2, .int x2)] (by decide) (Nat.le_of_ble_eq_true rfl) rfl ?_
  intro x hc
  have hc : Zc x g c_M_rollsOut R_M 3 none 1 := hc
  obtain ⟨ρ, hρ⟩ : ∃ ρ : Option Value × Sg, ρ = (none, r.2) := ⟨_, rfl⟩
  rw [← hρ]
  refine z_aload_n hc d_M_rollsOut_0 0 rfl ?_
  refine gf_M_9 hc d_M_rollsOut_1  ?_
  refine z_iconst (v := (iI 1)) hc d_M_rollsOut_4 (by decide) ?_
  refine z_ldc (v := (iI 99999)) hc co_M_119 d_M_rollsOut_5 ?_
  refine z_aload_n hc d_M_rollsOut_7 0 rfl ?_
  refine gf_M_9 hc d_M_rollsOut_8  ?_
  refine z_iconst (v := (iI 1)) hc d_M_rollsOut_11 (by decide) ?_
  obtain ⟨j1, hj2, hf⟩ := bd hf
  refine ald_ms hc d_M_rollsOut_12  hj2 ?_
  refine z_iconst (v := (iI 1)) hc d_M_rollsOut_13 (by decide) ?_
  refine z_iadd hc d_M_rollsOut_14 ?_
  obtain ⟨v3, σ4, h5, hf⟩ := bd2 hf
  refine cz_M_85 hc d_M_rollsOut_15 (by decide)  h5 (Nat.le_of_ble_eq_true rfl) ?_
  obtain ⟨j6, hj7, hf⟩ := bd hf
  refine ast_ms hc d_M_rollsOut_18  hj7 ?_
  refine z_aload_n hc d_M_rollsOut_19 0 rfl ?_
  refine z_iload_n hc d_M_rollsOut_20 1 rfl ?_
  refine z_iconst (v := (iI 5)) hc d_M_rollsOut_21 (by decide) ?_
  refine z_iload_n hc d_M_rollsOut_22 2 rfl ?_
  obtain ⟨v8, σ9, h10, hf⟩ := bd2 hf
  refine cz_M_78 hc d_M_rollsOut_23 (by decide)  h10 (Nat.le_of_ble_eq_true rfl) ?_
  refine z_aload_n hc d_M_rollsOut_26 0 rfl ?_
  refine z_iload_n hc d_M_rollsOut_27 1 rfl ?_
  refine z_bipush (v := (iI 6)) hc d_M_rollsOut_28 (by decide) ?_
  refine z_aload_n hc d_M_rollsOut_30 0 rfl ?_
  refine gf_M_9 hc d_M_rollsOut_31  ?_
  refine z_iconst (v := (iI 1)) hc d_M_rollsOut_34 (by decide) ?_
  obtain ⟨j11, hj12, hf⟩ := bd hf
  refine ald_ms hc d_M_rollsOut_35  hj12 ?_
  obtain ⟨v13, σ14, h15, hf⟩ := bd2 hf
  refine cz_M_78 hc d_M_rollsOut_36 (by decide)  h15 (Nat.le_of_ble_eq_true rfl) ?_
  exact z_vret hc d_M_rollsOut_39 (rV hf hρ)
theorem vl_M_120 : VL R_M 120 y_M_rollsOut c_M_rollsOut 3 none 2 := ⟨tb5 67 (by decide +kernel) (by decide +kernel), tb5 69 (by decide +kernel) (by decide +kernel), tbp 26 (by decide +kernel), tb1 12 (by decide +kernel) (by decide +kernel), k_M_rollsOut, by decide, by decide, by decide +kernel, by decide⟩
theorem cz_M_120 {x : Cx} {g : Gv} {cc : ByteArray} {nL d pc : Nat} {ret : Option FieldType} {ρ : Option Value × Sg} {L : List (Nat × Value)} {st : List Value} {σ : Sg} (hc : Zc x g cc R_M nL ret d) (hd : decode cc pc = .ok (.invokevirtual 120, 3)) (hdd : 2 ≤ d) {x1 : Int32} {x2 : Int32} {v : Unit} {σ1 : Sg} (hf : f_M_rollsOut x1 x2 σ = some (v, σ1)) (hst : (st.map (fun v => v.category)).sum ≤ 8) (k : Z x g nL ρ (pc + 3) L (st) σ1) : Z x g nL ρ pc L (.int x2 :: .int x1 :: .ref (gAd g (6, 0, 0)) :: st) σ := z_callV (ci := 11) (As := [.int x1, .int x2]) hc hd vl_M_120 hdd (6, 0, 0) (dm_M) rfl rfl (ok_M_rollsOut g x1 x2 σ (v, σ1) hf) rfl rfl hst rfl k
def j_M_roll_15 (σ : Sg) : Option (Int32 × Sg) :=
  b2 (f_M_no (iI 0) σ) (fun v4 σ5 => some (v4, σ5))
theorem sj_M_roll_15 {x : Cx} {g : Gv} {ρ : Option Value × Sg} (hc : Zc x g c_M_roll R_M 3 (some .int) 2) (σ : Sg) (r : Int32 × Sg) (hf : j_M_roll_15 σ = some r) (hρ : ρ = (some (.int r.1), r.2)) : Z x g 3 ρ 15 [(0, .ref (gAd g (6, 0, 0)))] [] σ := by
  unfold j_M_roll_15 at hf
  refine z_aload_n hc d_M_roll_15 0 rfl ?_
  refine z_iconst (v := (iI 0)) hc d_M_roll_16 (by decide) ?_
  obtain ⟨v4, σ5, h6, hf⟩ := bd2 hf
  refine cz_M_92 hc d_M_roll_17 (by decide)  h6 (Nat.le_of_ble_eq_true rfl) ?_
  exact z_iret hc d_M_roll_20 (rI hf hρ)
def f_M_roll (x1 : Int32) (x2 : Int32) (σ : Sg) : Option (Int32 × Sg) :=
  b2 (f_M_isCarpet x1 σ) (fun v1 σ2 => (if v1 = (iI 0) then j_M_roll_15   σ2 else b2 (f_M_isYard x2 σ2) (fun v7 σ8 => (if v7 = (iI 0) then j_M_roll_15   σ8 else b2 (f_M_get x1 (iI 3) σ8) (fun v10 σ11 => (if v10 = (iI 0) then b2 (f_M_no (iI 4) σ11) (fun v22 σ23 => some (v22, σ23)) else b2 (f_M_rollsOut x1 x2 σ11) (fun v13 σ14 => b2 (f_M_reachOf x1 σ14) (fun v16 σ17 => b2 (f_M_less v16 ((iI 40) - x2) σ17) (fun v19 σ20 => some (v19, σ20))))))))))
theorem ok_M_roll (g : Gv) (x1 : Int32) (x2 : Int32) (σ : Sg) (r : Int32 × Sg) (hf : f_M_roll x1 x2 σ = some r) : Ok g y_M_roll c_M_roll 3 (some .int) 2 [.ref (gAd g (6, 0, 0)), .int x1, .int x2] σ (some (.int r.1), r.2) := by
  unfold f_M_roll at hf
  refine Ok.of [(0, .ref (gAd g (6, 0, 0))), (1, .int x1), (2, .int x2)] (by decide) (Nat.le_of_ble_eq_true rfl) rfl ?_
  intro x hc
  have hc : Zc x g c_M_roll R_M 3 (some .int) 2 := hc
  obtain ⟨ρ, hρ⟩ : ∃ ρ : Option Value × Sg, ρ = (some (.int r.1), r.2) := ⟨_, rfl⟩
  rw [← hρ]
  refine z_aload_n hc d_M_roll_0 0 rfl ?_
  refine z_iload_n hc d_M_roll_1 1 rfl ?_
  obtain ⟨v1, σ2, h3, hf⟩ := bd2 hf
  refine cz_M_113 hc d_M_roll_2 (by decide)  h3 (Nat.le_of_ble_eq_true rfl) ?_
  refine z_if_eq (tgt := 15) hc d_M_roll_5 (by decide) (fun hq => ?_) (fun hq => ?_)
  · have hf := ifp hq hf
    refine z_sub [0] (L' := [(0, .ref (gAd g (6, 0, 0)))]) rfl ?_
    exact sj_M_roll_15 hc     σ2 _ hf hρ
  · have hf := ifn hq hf
    refine z_iload_n hc d_M_roll_8 2 rfl ?_
    obtain ⟨v7, σ8, h9, hf⟩ := bd2 hf
    refine cz_M_95 hc d_M_roll_9 (by decide)  h9 (Nat.le_of_ble_eq_true rfl) ?_
    refine z_if_ne (tgt := 21) hc d_M_roll_12 (by decide) (fun hq => ?_) (fun hq => ?_)
    · have hf := ifn hq hf
      refine z_aload_n hc d_M_roll_21 0 rfl ?_
      refine z_iload_n hc d_M_roll_22 1 rfl ?_
      refine z_iconst (v := (iI 3)) hc d_M_roll_23 (by decide) ?_
      obtain ⟨v10, σ11, h12, hf⟩ := bd2 hf
      refine cz_M_53 hc d_M_roll_24 (by decide)  h12 (Nat.le_of_ble_eq_true rfl) ?_
      refine z_if_ne (tgt := 36) hc d_M_roll_27 (by decide) (fun hq => ?_) (fun hq => ?_)
      · have hf := ifn hq hf
        refine z_aload_n hc d_M_roll_36 0 rfl ?_
        refine z_iload_n hc d_M_roll_37 1 rfl ?_
        refine z_iload_n hc d_M_roll_38 2 rfl ?_
        obtain ⟨v13, σ14, h15, hf⟩ := bd2 hf
        refine cz_M_120 hc d_M_roll_39 (by decide)  h15 (Nat.le_of_ble_eq_true rfl) ?_
        refine z_aload_n hc d_M_roll_42 0 rfl ?_
        refine z_iload_n hc d_M_roll_43 1 rfl ?_
        obtain ⟨v16, σ17, h18, hf⟩ := bd2 hf
        refine cz_M_61 hc d_M_roll_44 (by decide)  h18 (Nat.le_of_ble_eq_true rfl) ?_
        refine z_bipush (v := (iI 40)) hc d_M_roll_47 (by decide) ?_
        refine z_iload_n hc d_M_roll_49 2 rfl ?_
        refine z_isub hc d_M_roll_50 ?_
        obtain ⟨v19, σ20, h21, hf⟩ := bd2 hf
        refine cz_M_85 hc d_M_roll_51 (by decide)  h21 (Nat.le_of_ble_eq_true rfl) ?_
        exact z_iret hc d_M_roll_54 (rI hf hρ)
      · have hf := ifp hq hf
        refine z_aload_n hc d_M_roll_30 0 rfl ?_
        refine z_iconst (v := (iI 4)) hc d_M_roll_31 (by decide) ?_
        obtain ⟨v22, σ23, h24, hf⟩ := bd2 hf
        refine cz_M_92 hc d_M_roll_32 (by decide)  h24 (Nat.le_of_ble_eq_true rfl) ?_
        exact z_iret hc d_M_roll_35 (rI hf hρ)
    · have hf := ifp hq hf
      refine z_sub [0] (L' := [(0, .ref (gAd g (6, 0, 0)))]) rfl ?_
      exact sj_M_roll_15 hc     σ8 _ hf hρ
def f_M_up (x1 : Int32) (σ : Sg) : Option (Int32 × Sg) :=
  b2 (f_M_isCarpet x1 σ) (fun v1 σ2 => (if v1 = (iI 0) then b2 (f_M_no (iI 0) σ2) (fun v13 σ14 => some (v13, σ14)) else b2 (f_M_get x1 (iI 5) σ2) (fun v4 σ5 => (if (iI 0) ≤ v4 then b2 (f_M_puts x1 (iI 5) (iI (-1)) σ5) (fun v7 σ8 => some (v4, σ8)) else b2 (f_M_no (iI 4) σ5) (fun v10 σ11 => some (v10, σ11))))))
theorem ok_M_up (g : Gv) (x1 : Int32) (σ : Sg) (r : Int32 × Sg) (hf : f_M_up x1 σ = some r) : Ok g y_M_up c_M_up 3 (some .int) 2 [.ref (gAd g (6, 0, 0)), .int x1] σ (some (.int r.1), r.2) := by
  unfold f_M_up at hf
  refine Ok.of [(0, .ref (gAd g (6, 0, 0))), (1, .int x1)] (by decide) (Nat.le_of_ble_eq_true rfl) rfl ?_
  intro x hc
  have hc : Zc x g c_M_up R_M 3 (some .int) 2 := hc
  obtain ⟨ρ, hρ⟩ : ∃ ρ : Option Value × Sg, ρ = (some (.int r.1), r.2) := ⟨_, rfl⟩
  rw [← hρ]
  refine z_aload_n hc d_M_up_0 0 rfl ?_
  refine z_iload_n hc d_M_up_1 1 rfl ?_
  obtain ⟨v1, σ2, h3, hf⟩ := bd2 hf
  refine cz_M_113 hc d_M_up_2 (by decide)  h3 (Nat.le_of_ble_eq_true rfl) ?_
  refine z_if_ne (tgt := 14) hc d_M_up_5 (by decide) (fun hq => ?_) (fun hq => ?_)
  · have hf := ifn hq hf
    refine z_aload_n hc d_M_up_14 0 rfl ?_
    refine z_iload_n hc d_M_up_15 1 rfl ?_
    refine z_iconst (v := (iI 5)) hc d_M_up_16 (by decide) ?_
    obtain ⟨v4, σ5, h6, hf⟩ := bd2 hf
    refine cz_M_53 hc d_M_up_17 (by decide)  h6 (Nat.le_of_ble_eq_true rfl) ?_
    refine z_istore_n (L' := [(2, .int v4), (0, .ref (gAd g (6, 0, 0))), (1, .int x1)]) hc d_M_up_20 (by decide) rfl ?_
    refine z_iload_n hc d_M_up_21 0 rfl ?_
    refine z_if_ge (tgt := 31) hc d_M_up_22 (by decide) (fun hq => ?_) (fun hq => ?_)
    · have hf := ifp hq hf
      refine z_aload_n hc d_M_up_31 1 rfl ?_
      refine z_iload_n hc d_M_up_32 2 rfl ?_
      refine z_iconst (v := (iI 5)) hc d_M_up_33 (by decide) ?_
      refine z_iconst (v := (iI (-1))) hc d_M_up_34 (by decide) ?_
      obtain ⟨v7, σ8, h9, hf⟩ := bd2 hf
      refine cz_M_78 hc d_M_up_35 (by decide)  h9 (Nat.le_of_ble_eq_true rfl) ?_
      refine z_iload_n hc d_M_up_38 0 rfl ?_
      exact z_iret hc d_M_up_39 (rI hf hρ)
    · have hf := ifn hq hf
      refine z_aload_n hc d_M_up_25 1 rfl ?_
      refine z_iconst (v := (iI 4)) hc d_M_up_26 (by decide) ?_
      obtain ⟨v10, σ11, h12, hf⟩ := bd2 hf
      refine cz_M_92 hc d_M_up_27 (by decide)  h12 (Nat.le_of_ble_eq_true rfl) ?_
      exact z_iret hc d_M_up_30 (rI hf hρ)
  · have hf := ifp hq hf
    refine z_aload_n hc d_M_up_8 0 rfl ?_
    refine z_iconst (v := (iI 0)) hc d_M_up_9 (by decide) ?_
    obtain ⟨v13, σ14, h15, hf⟩ := bd2 hf
    refine cz_M_92 hc d_M_up_10 (by decide)  h15 (Nat.le_of_ble_eq_true rfl) ?_
    exact z_iret hc d_M_up_13 (rI hf hρ)
def f_M_beat (x1 : Int32) (σ : Sg) : Option (Int32 × Sg) :=
  b2 (f_M_isCarpet x1 σ) (fun v1 σ2 => (if v1 = (iI 0) then b2 (f_M_no (iI 0) σ2) (fun v22 σ23 => some (v22, σ23)) else b2 (f_M_get x1 (iI 3) σ2) (fun v4 σ5 => b2 (f_M_beatenOf x1 σ5) (fun v7 σ8 => b2 (f_M_less (iI 99) (v4 + v7) σ8) (fun v10 σ11 => b2 (f_M_puts x1 (iI 3) v10 σ11) (fun v13 σ14 => b2 (f_M_puts x1 (iI 4) (iI 0) σ14) (fun v16 σ17 => b2 (f_M_get x1 (iI 3) σ17) (fun v19 σ20 => some (v19, σ20)))))))))
theorem ok_M_beat (g : Gv) (x1 : Int32) (σ : Sg) (r : Int32 × Sg) (hf : f_M_beat x1 σ = some r) : Ok g y_M_beat c_M_beat 2 (some .int) 2 [.ref (gAd g (6, 0, 0)), .int x1] σ (some (.int r.1), r.2) := by
  unfold f_M_beat at hf
  refine Ok.of [(0, .ref (gAd g (6, 0, 0))), (1, .int x1)] (by decide) (Nat.le_of_ble_eq_true rfl) rfl ?_
  intro x hc
  have hc : Zc x g c_M_beat R_M 2 (some .int) 2 := hc
  obtain ⟨ρ, hρ⟩ : ∃ ρ : Option Value × Sg, ρ = (some (.int r.1), r.2) := ⟨_, rfl⟩
  rw [← hρ]
  refine z_aload_n hc d_M_beat_0 0 rfl ?_
  refine z_iload_n hc d_M_beat_1 1 rfl ?_
  obtain ⟨v1, σ2, h3, hf⟩ := bd2 hf
  refine cz_M_113 hc d_M_beat_2 (by decide)  h3 (Nat.le_of_ble_eq_true rfl) ?_
  refine z_if_ne (tgt := 14) hc d_M_beat_5 (by decide) (fun hq => ?_) (fun hq => ?_)
  · have hf := ifn hq hf
    refine z_aload_n hc d_M_beat_14 0 rfl ?_
    refine z_iload_n hc d_M_beat_15 1 rfl ?_
    refine z_iconst (v := (iI 3)) hc d_M_beat_16 (by decide) ?_
    refine z_bipush (v := (iI 99)) hc d_M_beat_17 (by decide) ?_
    refine z_aload_n hc d_M_beat_19 0 rfl ?_
    refine z_iload_n hc d_M_beat_20 1 rfl ?_
    refine z_iconst (v := (iI 3)) hc d_M_beat_21 (by decide) ?_
    obtain ⟨v4, σ5, h6, hf⟩ := bd2 hf
    refine cz_M_53 hc d_M_beat_22 (by decide)  h6 (Nat.le_of_ble_eq_true rfl) ?_
    refine z_aload_n hc d_M_beat_25 0 rfl ?_
    refine z_iload_n hc d_M_beat_26 1 rfl ?_
    obtain ⟨v7, σ8, h9, hf⟩ := bd2 hf
    refine cz_M_116 hc d_M_beat_27 (by decide)  h9 (Nat.le_of_ble_eq_true rfl) ?_
    refine z_iadd hc d_M_beat_30 ?_
    obtain ⟨v10, σ11, h12, hf⟩ := bd2 hf
    refine cz_M_85 hc d_M_beat_31 (by decide)  h12 (Nat.le_of_ble_eq_true rfl) ?_
    obtain ⟨v13, σ14, h15, hf⟩ := bd2 hf
    refine cz_M_78 hc d_M_beat_34 (by decide)  h15 (Nat.le_of_ble_eq_true rfl) ?_
    refine z_aload_n hc d_M_beat_37 0 rfl ?_
    refine z_iload_n hc d_M_beat_38 1 rfl ?_
    refine z_iconst (v := (iI 4)) hc d_M_beat_39 (by decide) ?_
    refine z_iconst (v := (iI 0)) hc d_M_beat_40 (by decide) ?_
    obtain ⟨v16, σ17, h18, hf⟩ := bd2 hf
    refine cz_M_78 hc d_M_beat_41 (by decide)  h18 (Nat.le_of_ble_eq_true rfl) ?_
    refine z_aload_n hc d_M_beat_44 0 rfl ?_
    refine z_iload_n hc d_M_beat_45 1 rfl ?_
    refine z_iconst (v := (iI 3)) hc d_M_beat_46 (by decide) ?_
    obtain ⟨v19, σ20, h21, hf⟩ := bd2 hf
    refine cz_M_53 hc d_M_beat_47 (by decide)  h21 (Nat.le_of_ble_eq_true rfl) ?_
    exact z_iret hc d_M_beat_50 (rI hf hρ)
  · have hf := ifp hq hf
    refine z_aload_n hc d_M_beat_8 0 rfl ?_
    refine z_iconst (v := (iI 0)) hc d_M_beat_9 (by decide) ?_
    obtain ⟨v22, σ23, h24, hf⟩ := bd2 hf
    refine cz_M_92 hc d_M_beat_10 (by decide)  h24 (Nat.le_of_ble_eq_true rfl) ?_
    exact z_iret hc d_M_beat_13 (rI hf hρ)
theorem vl_M_123 : VL R_M 123 y_M_goes c_M_goes 4 none 1 := ⟨tb5 87 (by decide +kernel) (by decide +kernel), tb5 89 (by decide +kernel) (by decide +kernel), tbp 27 (by decide +kernel), tb1 12 (by decide +kernel) (by decide +kernel), k_M_goes, by decide, by decide, by decide +kernel, by decide⟩
theorem cz_M_123 {x : Cx} {g : Gv} {cc : ByteArray} {nL d pc : Nat} {ret : Option FieldType} {ρ : Option Value × Sg} {L : List (Nat × Value)} {st : List Value} {σ : Sg} (hc : Zc x g cc R_M nL ret d) (hd : decode cc pc = .ok (.invokevirtual 123, 3)) (hdd : 4 ≤ d) {x1 : Int32} {v : Unit} {σ1 : Sg} (hf : f_M_goes x1 σ = some (v, σ1)) (hst : (st.map (fun v => v.category)).sum ≤ 8) (k : Z x g nL ρ (pc + 3) L (st) σ1) : Z x g nL ρ pc L (.int x1 :: .ref (gAd g (6, 0, 0)) :: st) σ := z_callV (ci := 11) (As := [.int x1]) hc hd vl_M_123 hdd (6, 0, 0) (dm_M) rfl rfl (ok_M_goes g x1 σ (v, σ1) hf) rfl rfl hst rfl k
def f_M_days (x1 : Int32) (σ : Sg) : Option (Int32 × Sg) :=
  b2 (f_M_in1 x1 (iI 1) (iI 60) σ) (fun v1 σ2 => (if v1 = (iI 0) then b2 (f_M_no (iI 0) σ2) (fun v15 σ16 => some (v15, σ16)) else Option.bind (rd (iI 0) 66) (fun j4 => (if ((σ2.1 20 0 0 j4) + x1) ≤ (iI 9999) then b2 (f_M_goes x1 σ2) (fun v6 σ7 => b2 (f_M_rolledOut  σ7) (fun v9 σ10 => some (v9, σ10))) else b2 (f_M_no (iI 4) σ2) (fun v12 σ13 => some (v12, σ13))))))
theorem ok_M_days (g : Gv) (x1 : Int32) (σ : Sg) (r : Int32 × Sg) (hf : f_M_days x1 σ = some r) : Ok g y_M_days c_M_days 2 (some .int) 4 [.ref (gAd g (6, 0, 0)), .int x1] σ (some (.int r.1), r.2) := by
  unfold f_M_days at hf
  refine Ok.of [(0, .ref (gAd g (6, 0, 0))), (1, .int x1)] (by decide) (Nat.le_of_ble_eq_true rfl) rfl ?_
  intro x hc
  have hc : Zc x g c_M_days R_M 2 (some .int) 4 := hc
  obtain ⟨ρ, hρ⟩ : ∃ ρ : Option Value × Sg, ρ = (some (.int r.1), r.2) := ⟨_, rfl⟩
  rw [← hρ]
  refine z_iload_n hc d_M_days_0 1 rfl ?_
  refine z_iconst (v := (iI 1)) hc d_M_days_1 (by decide) ?_
  refine z_bipush (v := (iI 60)) hc d_M_days_2 (by decide) ?_
  obtain ⟨v1, σ2, h3, hf⟩ := bd2 hf
  refine cz_M_49 hc d_M_days_4 (by decide)  h3 (Nat.le_of_ble_eq_true rfl) ?_
  refine z_if_ne (tgt := 16) hc d_M_days_7 (by decide) (fun hq => ?_) (fun hq => ?_)
  · have hf := ifn hq hf
    refine z_aload_n hc d_M_days_16 0 rfl ?_
    refine gf_M_9 hc d_M_days_17  ?_
    refine z_iconst (v := (iI 0)) hc d_M_days_20 (by decide) ?_
    obtain ⟨j4, hj5, hf⟩ := bd hf
    refine ald_ms hc d_M_days_21  hj5 ?_
    refine z_iload_n hc d_M_days_22 1 rfl ?_
    refine z_iadd hc d_M_days_23 ?_
    refine z_sipush (v := (iI 9999)) hc d_M_days_24 (by decide) ?_
    refine z_icmp_le (tgt := 36) hc d_M_days_27 (by decide) (fun hq => ?_) (fun hq => ?_)
    · have hf := ifp hq hf
      refine z_aload_n hc d_M_days_36 0 rfl ?_
      refine z_iload_n hc d_M_days_37 1 rfl ?_
      obtain ⟨v6, σ7, h8, hf⟩ := bd2 hf
      refine cz_M_123 hc d_M_days_38 (by decide)  h8 (Nat.le_of_ble_eq_true rfl) ?_
      refine z_aload_n hc d_M_days_41 0 rfl ?_
      obtain ⟨v9, σ10, h11, hf⟩ := bd2 hf
      refine cz_M_102 hc d_M_days_42 (by decide)  h11 (Nat.le_of_ble_eq_true rfl) ?_
      exact z_iret hc d_M_days_45 (rI hf hρ)
    · have hf := ifn hq hf
      refine z_aload_n hc d_M_days_30 0 rfl ?_
      refine z_iconst (v := (iI 4)) hc d_M_days_31 (by decide) ?_
      obtain ⟨v12, σ13, h14, hf⟩ := bd2 hf
      refine cz_M_92 hc d_M_days_32 (by decide)  h14 (Nat.le_of_ble_eq_true rfl) ?_
      exact z_iret hc d_M_days_35 (rI hf hρ)
  · have hf := ifp hq hf
    refine z_aload_n hc d_M_days_10 0 rfl ?_
    refine z_iconst (v := (iI 0)) hc d_M_days_11 (by decide) ?_
    obtain ⟨v15, σ16, h17, hf⟩ := bd2 hf
    refine cz_M_92 hc d_M_days_12 (by decide)  h17 (Nat.le_of_ble_eq_true rfl) ?_
    exact z_iret hc d_M_days_15 (rI hf hρ)
theorem vl_M_126 : VL R_M 126 y_M_setsAside c_M_setsAside 2 none 0 := ⟨tb5 99 (by decide +kernel) (by decide +kernel), tb5 101 (by decide +kernel) (by decide +kernel), tbp 29 (by decide +kernel), tb1 12 (by decide +kernel) (by decide +kernel), k_M_setsAside, by decide, by decide, by decide +kernel, by decide⟩
theorem cz_M_126 {x : Cx} {g : Gv} {cc : ByteArray} {nL d pc : Nat} {ret : Option FieldType} {ρ : Option Value × Sg} {L : List (Nat × Value)} {st : List Value} {σ : Sg} (hc : Zc x g cc R_M nL ret d) (hd : decode cc pc = .ok (.invokevirtual 126, 3)) (hdd : 1 ≤ d) {v : Unit} {σ1 : Sg} (hf : f_M_setsAside σ = some (v, σ1)) (hst : (st.map (fun v => v.category)).sum ≤ 8) (k : Z x g nL ρ (pc + 3) L (st) σ1) : Z x g nL ρ pc L (.ref (gAd g (6, 0, 0)) :: st) σ := z_callV (ci := 11) (As := []) hc hd vl_M_126 hdd (6, 0, 0) (dm_M) rfl rfl (ok_M_setsAside g σ (v, σ1) hf) rfl rfl hst rfl k
theorem vl_M_129 : VL R_M 129 y_M_laysBack c_M_laysBack 2 none 0 := ⟨tb5 103 (by decide +kernel) (by decide +kernel), tb5 105 (by decide +kernel) (by decide +kernel), tbp 30 (by decide +kernel), tb1 12 (by decide +kernel) (by decide +kernel), k_M_laysBack, by decide, by decide, by decide +kernel, by decide⟩
theorem cz_M_129 {x : Cx} {g : Gv} {cc : ByteArray} {nL d pc : Nat} {ret : Option FieldType} {ρ : Option Value × Sg} {L : List (Nat × Value)} {st : List Value} {σ : Sg} (hc : Zc x g cc R_M nL ret d) (hd : decode cc pc = .ok (.invokevirtual 129, 3)) (hdd : 1 ≤ d) {v : Unit} {σ1 : Sg} (hf : f_M_laysBack σ = some (v, σ1)) (hst : (st.map (fun v => v.category)).sum ≤ 8) (k : Z x g nL ρ (pc + 3) L (st) σ1) : Z x g nL ρ pc L (.ref (gAd g (6, 0, 0)) :: st) σ := z_callV (ci := 11) (As := []) hc hd vl_M_129 hdd (6, 0, 0) (dm_M) rfl rfl (ok_M_laysBack g σ (v, σ1) hf) rfl rfl hst rfl k
def j_M_on_28 (σ : Sg) : Option (Int32 × Sg) :=
  b2 (f_M_no (iI 0) σ) (fun v4 σ5 => some (v4, σ5))
theorem sj_M_on_28 {x : Cx} {g : Gv} {ρ : Option Value × Sg} (hc : Zc x g c_M_on R_M 5 (some .int) 4) (σ : Sg) (r : Int32 × Sg) (hf : j_M_on_28 σ = some r) (hρ : ρ = (some (.int r.1), r.2)) : Z x g 5 ρ 28 [(0, .ref (gAd g (6, 0, 0)))] [] σ := by
  unfold j_M_on_28 at hf
  refine z_aload_n hc d_M_on_28 0 rfl ?_
  refine z_iconst (v := (iI 0)) hc d_M_on_29 (by decide) ?_
  obtain ⟨v4, σ5, h6, hf⟩ := bd2 hf
  refine cz_M_92 hc d_M_on_30 (by decide)  h6 (Nat.le_of_ble_eq_true rfl) ?_
  exact z_iret hc d_M_on_33 (rI hf hρ)
def f_M_on (x1 : Int32) (x2 : Int32) (x3 : Int32) (σ : Sg) : Option (Int32 × Sg) :=
  b2 (f_M_isCarpet x1 σ) (fun v1 σ2 => (if v1 = (iI 0) then j_M_on_28   σ2 else b2 (f_M_in1 x2 (iI 0) (iI 200) σ2) (fun v7 σ8 => (if v7 = (iI 0) then j_M_on_28   σ8 else b2 (f_M_in1 x3 (iI 0) (iI 2) σ8) (fun v10 σ11 => (if v10 = (iI 0) then j_M_on_28   σ11 else b2 (f_M_setsAside  σ11) (fun v13 σ14 => b2 (f_M_goes x2 σ14) (fun v16 σ17 => b2 (f_M_get x1 ((iI 3) + x3) σ17) (fun v19 σ20 => b2 (f_M_laysBack  σ20) (fun v22 σ23 => some (v19, σ23)))))))))))
theorem ok_M_on (g : Gv) (x1 : Int32) (x2 : Int32) (x3 : Int32) (σ : Sg) (r : Int32 × Sg) (hf : f_M_on x1 x2 x3 σ = some r) : Ok g y_M_on c_M_on 5 (some .int) 4 [.ref (gAd g (6, 0, 0)), .int x1, .int x2, .int x3] σ (some (.int r.1), r.2) := by
  unfold f_M_on at hf
  refine Ok.of [(0, .ref (gAd g (6, 0, 0))), (1, .int x1), (2, .int x2), (3, .int x3)] (by decide) (Nat.le_of_ble_eq_true rfl) rfl ?_
  intro x hc
  have hc : Zc x g c_M_on R_M 5 (some .int) 4 := hc
  obtain ⟨ρ, hρ⟩ : ∃ ρ : Option Value × Sg, ρ = (some (.int r.1), r.2) := ⟨_, rfl⟩
  rw [← hρ]
  refine z_aload_n hc d_M_on_0 0 rfl ?_
  refine z_iload_n hc d_M_on_1 1 rfl ?_
  obtain ⟨v1, σ2, h3, hf⟩ := bd2 hf
  refine cz_M_113 hc d_M_on_2 (by decide)  h3 (Nat.le_of_ble_eq_true rfl) ?_
  refine z_if_eq (tgt := 28) hc d_M_on_5 (by decide) (fun hq => ?_) (fun hq => ?_)
  · have hf := ifp hq hf
    refine z_sub [0] (L' := [(0, .ref (gAd g (6, 0, 0)))]) rfl ?_
    exact sj_M_on_28 hc     σ2 _ hf hρ
  · have hf := ifn hq hf
    refine z_iload_n hc d_M_on_8 2 rfl ?_
    refine z_iconst (v := (iI 0)) hc d_M_on_9 (by decide) ?_
    refine z_sipush (v := (iI 200)) hc d_M_on_10 (by decide) ?_
    obtain ⟨v7, σ8, h9, hf⟩ := bd2 hf
    refine cz_M_49 hc d_M_on_13 (by decide)  h9 (Nat.le_of_ble_eq_true rfl) ?_
    refine z_if_eq (tgt := 28) hc d_M_on_16 (by decide) (fun hq => ?_) (fun hq => ?_)
    · have hf := ifp hq hf
      refine z_sub [0] (L' := [(0, .ref (gAd g (6, 0, 0)))]) rfl ?_
      exact sj_M_on_28 hc     σ8 _ hf hρ
    · have hf := ifn hq hf
      refine z_iload_n hc d_M_on_19 3 rfl ?_
      refine z_iconst (v := (iI 0)) hc d_M_on_20 (by decide) ?_
      refine z_iconst (v := (iI 2)) hc d_M_on_21 (by decide) ?_
      obtain ⟨v10, σ11, h12, hf⟩ := bd2 hf
      refine cz_M_49 hc d_M_on_22 (by decide)  h12 (Nat.le_of_ble_eq_true rfl) ?_
      refine z_if_ne (tgt := 34) hc d_M_on_25 (by decide) (fun hq => ?_) (fun hq => ?_)
      · have hf := ifn hq hf
        refine z_aload_n hc d_M_on_34 0 rfl ?_
        obtain ⟨v13, σ14, h15, hf⟩ := bd2 hf
        refine cz_M_126 hc d_M_on_35 (by decide)  h15 (Nat.le_of_ble_eq_true rfl) ?_
        refine z_aload_n hc d_M_on_38 0 rfl ?_
        refine z_iload_n hc d_M_on_39 2 rfl ?_
        obtain ⟨v16, σ17, h18, hf⟩ := bd2 hf
        refine cz_M_123 hc d_M_on_40 (by decide)  h18 (Nat.le_of_ble_eq_true rfl) ?_
        refine z_aload_n hc d_M_on_43 0 rfl ?_
        refine z_iload_n hc d_M_on_44 1 rfl ?_
        refine z_iconst (v := (iI 3)) hc d_M_on_45 (by decide) ?_
        refine z_iload_n hc d_M_on_46 3 rfl ?_
        refine z_iadd hc d_M_on_47 ?_
        obtain ⟨v19, σ20, h21, hf⟩ := bd2 hf
        refine cz_M_53 hc d_M_on_48 (by decide)  h21 (Nat.le_of_ble_eq_true rfl) ?_
        refine z_istore (L' := [(4, .int v19), (0, .ref (gAd g (6, 0, 0))), (1, .int x1), (2, .int x2), (3, .int x3)]) hc d_M_on_51 (by decide) rfl ?_
        refine z_aload_n hc d_M_on_53 1 rfl ?_
        obtain ⟨v22, σ23, h24, hf⟩ := bd2 hf
        refine cz_M_129 hc d_M_on_54 (by decide)  h24 (Nat.le_of_ble_eq_true rfl) ?_
        refine z_iload hc d_M_on_57 0 rfl ?_
        exact z_iret hc d_M_on_59 (rI hf hρ)
      · have hf := ifp hq hf
        refine z_sub [0] (L' := [(0, .ref (gAd g (6, 0, 0)))]) rfl ?_
        exact sj_M_on_28 hc     σ11 _ hf hρ
def f_M_hasThen (x1 : Int32) (x2 : Int32) (σ : Sg) : Option (Int32 × Sg) :=
  b2 (f_M_goes x2 σ) (fun v1 σ2 => b2 (f_M_yardsOf x1 σ2) (fun v4 σ5 => b2 (f_M_laysBack  σ5) (fun v7 σ8 => some (v4, σ8))))
theorem ok_M_hasThen (g : Gv) (x1 : Int32) (x2 : Int32) (σ : Sg) (r : Int32 × Sg) (hf : f_M_hasThen x1 x2 σ = some r) : Ok g y_M_hasThen c_M_hasThen 4 (some .int) 6 [.ref (gAd g (6, 0, 0)), .int x1, .int x2] σ (some (.int r.1), r.2) := by
  unfold f_M_hasThen at hf
  refine Ok.of [(0, .ref (gAd g (6, 0, 0))), (1, .int x1), (2, .int x2)] (by decide) (Nat.le_of_ble_eq_true rfl) rfl ?_
  intro x hc
  have hc : Zc x g c_M_hasThen R_M 4 (some .int) 6 := hc
  obtain ⟨ρ, hρ⟩ : ∃ ρ : Option Value × Sg, ρ = (some (.int r.1), r.2) := ⟨_, rfl⟩
  rw [← hρ]
  refine z_aload_n hc d_M_hasThen_0 0 rfl ?_
  refine z_iload_n hc d_M_hasThen_1 2 rfl ?_
  obtain ⟨v1, σ2, h3, hf⟩ := bd2 hf
  refine cz_M_123 hc d_M_hasThen_2 (by decide)  h3 (Nat.le_of_ble_eq_true rfl) ?_
  refine z_aload_n hc d_M_hasThen_5 0 rfl ?_
  refine z_iload_n hc d_M_hasThen_6 1 rfl ?_
  obtain ⟨v4, σ5, h6, hf⟩ := bd2 hf
  refine cz_M_99 hc d_M_hasThen_7 (by decide)  h6 (Nat.le_of_ble_eq_true rfl) ?_
  refine z_istore_n (L' := [(3, .int v4), (0, .ref (gAd g (6, 0, 0))), (1, .int x1), (2, .int x2)]) hc d_M_hasThen_10 (by decide) rfl ?_
  refine z_aload_n hc d_M_hasThen_11 1 rfl ?_
  obtain ⟨v7, σ8, h9, hf⟩ := bd2 hf
  refine cz_M_129 hc d_M_hasThen_12 (by decide)  h9 (Nat.le_of_ble_eq_true rfl) ?_
  refine z_iload_n hc d_M_hasThen_15 0 rfl ?_
  exact z_iret hc d_M_hasThen_16 (rI hf hρ)
