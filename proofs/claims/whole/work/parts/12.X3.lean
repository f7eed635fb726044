def b_X_changes_39 (x1 : Int32) (x2 : Int32) (x3 : Int32) (σ : Sg) : Option ((Int32 × Sg) ⊕ ((Int32 × Sg) ⊕ (Sg))) :=
  (if (iI 400) < x3 then some (.inr (.inr σ)) else b2 (f_World_passDays 2 (iI 1) σ) (fun v10 σ11 => b2 (f_World_ownerAt 2 x1 σ11) (fun v13 σ14 => (if v13 = x2 then some (.inl (x3 + (iI 1), σ14)) else some (.inr (.inl (x3, σ14)))))))
theorem sb_X_changes_39 {x : Cx} {g : Gv} {ρ : Option Value × Sg} (hc : Zc x g c_X_changes R_X 4 (some .int) 6) (x1 : Int32) (x2 : Int32) (x3 : Int32) (σ : Sg) (r : (Int32 × Sg) ⊕ ((Int32 × Sg) ⊕ (Sg))) (hf : b_X_changes_39 x1 x2 x3 σ = some r) (hi : ∀ a', r = .inl a' → Z x g 4 ρ 39 [(0, .ref (gAd g (0, 0, 0))), (1, .int x1), (2, .int x2), (3, .int a'.1)] [] a'.2) (he0 : ∀ b, r = .inr (.inl b) → Z x g 4 ρ 66 [(3, .int b.1)] [] b.2) (he1 : ∀ b, r = .inr (.inr b) → Z x g 4 ρ 74 [(0, .ref (gAd g (0, 0, 0)))] [] b) : Z x g 4 ρ 39 [(0, .ref (gAd g (0, 0, 0))), (1, .int x1), (2, .int x2), (3, .int x3)] [] σ := by
  unfold b_X_changes_39 at hf
  refine z_iload_n hc d_X_changes_39 3 rfl ?_
  refine z_sipush (v := (iI 400)) hc d_X_changes_40 (by decide) ?_
  refine z_icmp_gt (tgt := 74) hc d_X_changes_43 (by decide) (fun hq => ?_) (fun hq => ?_)
  · have hf := ifp hq hf
    refine z_sub [0] (L' := [(0, .ref (gAd g (0, 0, 0)))]) rfl ?_
    exact he1 σ (Option.some.inj hf).symm
  · have hf := ifn hq hf
    refine z_aload_n hc d_X_changes_46 0 rfl ?_
    refine gf_X_57 hc d_X_changes_47  ?_
    refine z_iconst (v := (iI 1)) hc d_X_changes_50 (by decide) ?_
    obtain ⟨v10, σ11, h12, hf⟩ := bd2 hf
    refine cz_X_208 hc d_X_changes_51 (by decide) (by decide) h12 (Nat.le_of_ble_eq_true rfl) ?_
    refine z_aload_n hc d_X_changes_54 0 rfl ?_
    refine gf_X_57 hc d_X_changes_55  ?_
    refine z_iload_n hc d_X_changes_58 1 rfl ?_
    obtain ⟨v13, σ14, h15, hf⟩ := bd2 hf
    refine cz_X_97 hc d_X_changes_59 (by decide) (by decide) h15 (Nat.le_of_ble_eq_true rfl) ?_
    refine z_iload_n hc d_X_changes_62 2 rfl ?_
    refine z_icmp_eq (tgt := 68) hc d_X_changes_63 (by decide) (fun hq => ?_) (fun hq => ?_)
    · have hf := ifp hq hf
      refine z_iinc (v := x3 + (iI 1)) (L' := [(3, .int (x3 + (iI 1))), (0, .ref (gAd g (0, 0, 0))), (1, .int x1), (2, .int x2)]) hc d_X_changes_68 3 rfl rfl (by decide) rfl ?_
      refine z_goto (tgt := 39) hc d_X_changes_71 (by decide) ?_
      refine z_sub [1, 2, 3, 0] (L' := [(0, .ref (gAd g (0, 0, 0))), (1, .int x1), (2, .int x2), (3, .int (x3 + (iI 1)))]) rfl ?_
      exact hi (x3 + (iI 1), σ14) (Option.some.inj hf).symm
    · have hf := ifn hq hf
      refine z_sub [3] (L' := [(3, .int x3)]) rfl ?_
      exact he0 (x3, σ14) (Option.some.inj hf).symm
def f_X_changes (x1 : Int32) (σ : Sg) : Option (Int32 × Sg) :=
  b2 (f_X_within x1 (iI 0) (iI 39) σ) (fun v1 σ2 => (if v1 = (iI 0) then b2 (f_X_found (iI (-1000000001)) σ2) (fun v26 σ27 => some (v26, σ27)) else b2 (f_World_ownerAt 0 x1 σ2) (fun v4 σ5 => b2 (f_World_become 2 0 σ5) (fun v7 σ8 => Option.bind (lp (fun a => b_X_changes_39 x1 v4 a.1 a.2) FU ((iI 1), σ8)) (fun z => Sum.elim (fun b23 => some (b23.1, b23.2)) (fun b24 => b2 (f_X_found (iI (-1000000004)) b24) (fun v20 σ21 => some (v20, σ21))) z)))))
theorem ok_X_changes (g : Gv) (x1 : Int32) (σ : Sg) (r : Int32 × Sg) (hf : f_X_changes x1 σ = some r) : Ok g y_X_changes c_X_changes 4 (some .int) 6 [.ref (gAd g (0, 0, 0)), .int x1] σ (some (.int r.1), r.2) := by
  unfold f_X_changes at hf
  refine Ok.of [(0, .ref (gAd g (0, 0, 0))), (1, .int x1)] (by decide) (Nat.le_of_ble_eq_true rfl) rfl ?_
  intro x hc
  have hc : Zc x g c_X_changes R_X 4 (some .int) 6 := hc
  obtain ⟨ρ, hρ⟩ : ∃ ρ : Option Value × Sg, ρ = (some (.int r.1), r.2) := ⟨_, rfl⟩
  rw [← hρ]
  refine z_iload_n hc d_X_changes_0 1 rfl ?_
  refine z_iconst (v := (iI 0)) hc d_X_changes_1 (by decide) ?_
  refine z_bipush (v := (iI 39)) hc d_X_changes_2 (by decide) ?_
  obtain ⟨v1, σ2, h3, hf⟩ := bd2 hf
  refine cz_X_85 hc d_X_changes_4 (by decide)  h3 (Nat.le_of_ble_eq_true rfl) ?_
  refine z_if_ne (tgt := 17) hc d_X_changes_7 (by decide) (fun hq => ?_) (fun hq => ?_)
  · have hf := ifn hq hf
    refine z_aload_n hc d_X_changes_17 0 rfl ?_
    refine gf_X_50 hc d_X_changes_18  ?_
    refine z_iload_n hc d_X_changes_21 1 rfl ?_
    obtain ⟨v4, σ5, h6, hf⟩ := bd2 hf
    refine cz_X_97 hc d_X_changes_22 (by decide) (by decide) h6 (Nat.le_of_ble_eq_true rfl) ?_
    refine z_istore_n (L' := [(2, .int v4), (0, .ref (gAd g (0, 0, 0))), (1, .int x1)]) hc d_X_changes_25 (by decide) rfl ?_
    refine z_aload_n hc d_X_changes_26 1 rfl ?_
    refine gf_X_57 hc d_X_changes_27  ?_
    refine z_aload_n hc d_X_changes_30 1 rfl ?_
    refine gf_X_50 hc d_X_changes_31  ?_
    obtain ⟨v7, σ8, h9, hf⟩ := bd2 hf
    refine cz_X_219 hc d_X_changes_34 (by decide) (by decide) (by decide) h9 (Nat.le_of_ble_eq_true rfl) ?_
    refine z_iconst (v := (iI 1)) hc d_X_changes_37 (by decide) ?_
    refine z_istore_n (L' := [(3, .int (iI 1)), (2, .int v4), (0, .ref (gAd g (0, 0, 0))), (1, .int x1)]) hc d_X_changes_38 (by decide) rfl ?_
    refine z_sub [2, 3, 1, 0] (L' := [(0, .ref (gAd g (0, 0, 0))), (1, .int x1), (2, .int v4), (3, .int (iI 1))]) rfl ?_
    obtain ⟨q16, hl25, hf⟩ := bd hf
    refine lp_walk (α := (Int32 × Sg)) (β := ((Int32 × Sg) ⊕ (Sg))) (body := (fun a : (Int32 × Sg) => b_X_changes_39 x1 v4 a.1 a.2)) (In := (fun a : (Int32 × Sg) => Z x g 4 ρ 39 [(0, .ref (gAd g (0, 0, 0))), (1, .int x1), (2, .int v4), (3, .int a.1)] [] a.2)) (Out := (Sum.elim (fun b => Z x g 4 ρ 66 [(3, .int b.1)] [] b.2) (fun b => Z x g 4 ρ 74 [(0, .ref (gAd g (0, 0, 0)))] [] b))) (fun a r hb hi ho => sb_X_changes_39 hc x1 v4  a.1 a.2 r hb hi (fun b e => ho _ e) (fun b e => ho _ e)) FU ((iI 1), σ8) _ hl25 ?_
    rcases q16 with ⟨y17, σ18⟩ | q16
    · try dsimp only [Sum.elim_inl, Sum.elim_inr] at hf
      try dsimp only [Sum.elim_inl, Sum.elim_inr]
      refine z_iload_n hc d_X_changes_66 0 rfl ?_
      exact z_iret hc d_X_changes_67 (rI hf hρ)
    try dsimp only [Sum.elim_inl, Sum.elim_inr] at hf
    try dsimp only [Sum.elim_inl, Sum.elim_inr]
    · obtain ⟨σ19, rfl⟩ : ∃ z, z = q16 := ⟨_, rfl⟩
      try dsimp only [Sum.elim_inl, Sum.elim_inr] at hf
      try dsimp only [Sum.elim_inl, Sum.elim_inr]
      refine z_aload_n hc d_X_changes_74 0 rfl ?_
      refine z_ldc (v := (iI (-1000000004))) hc co_X_225 d_X_changes_75 ?_
      obtain ⟨v20, σ21, h22, hf⟩ := bd2 hf
      refine cz_X_90 hc d_X_changes_77 (by decide)  h22 (Nat.le_of_ble_eq_true rfl) ?_
      exact z_iret hc d_X_changes_80 (rI hf hρ)
  · have hf := ifp hq hf
    refine z_aload_n hc d_X_changes_10 0 rfl ?_
    refine z_ldc (v := (iI (-1000000001))) hc co_X_89 d_X_changes_11 ?_
    obtain ⟨v26, σ27, h28, hf⟩ := bd2 hf
    refine cz_X_90 hc d_X_changes_13 (by decide)  h28 (Nat.le_of_ble_eq_true rfl) ?_
    exact z_iret hc d_X_changes_16 (rI hf hρ)
theorem vl_X_232 : VL R_X 232 y_World_survey c_World_survey 2 none 0 := ⟨tb3 134 (by decide +kernel) (by decide +kernel), tb2 111 (by decide +kernel) (by decide +kernel), tb2 112 (by decide +kernel) (by decide +kernel), tb1 8 (by decide +kernel) (by decide +kernel), k_World_survey, by decide, by decide, by decide +kernel, by decide⟩
theorem cz_X_232 {x : Cx} {g : Gv} {cc : ByteArray} {nL d pc : Nat} {ret : Option FieldType} {ρ : Option Value × Sg} {L : List (Nat × Value)} {st : List Value} {σ : Sg} (hc : Zc x g cc R_X nL ret d) (hd : decode cc pc = .ok (.invokevirtual 232, 3)) (hdd : 5 ≤ d) {w0 : Nat} (hv0 : w0 < 3) {v : Unit} {σ1 : Sg} (hf : f_World_survey w0 σ = some (v, σ1)) (hst : (st.map (fun v => v.category)).sum ≤ 8) (k : Z x g nL ρ (pc + 3) L (st) σ1) : Z x g nL ρ pc L (.ref (gAd g (1, w0, 0)) :: st) σ := z_callV (ci := 9) (As := []) hc hd vl_X_232 hdd (1, w0, 0) (dm_World hv0) rfl rfl (ok_World_survey g w0 hv0 σ (v, σ1) hf) rfl rfl hst rfl k
theorem vl_X_238 : VL R_X 238 y_World_yardsWithout c_World_yardsWithout 11 (some .int) 2 := ⟨tb3 135 (by decide +kernel) (by decide +kernel), tb2 124 (by decide +kernel) (by decide +kernel), tb2 125 (by decide +kernel) (by decide +kernel), tb1 8 (by decide +kernel) (by decide +kernel), k_World_yardsWithout, by decide, by decide, by decide +kernel, by decide⟩
theorem cz_X_238 {x : Cx} {g : Gv} {cc : ByteArray} {nL d pc : Nat} {ret : Option FieldType} {ρ : Option Value × Sg} {L : List (Nat × Value)} {st : List Value} {σ : Sg} (hc : Zc x g cc R_X nL ret d) (hd : decode cc pc = .ok (.invokevirtual 238, 3)) (hdd : 2 ≤ d) {w0 : Nat} {x1 : Int32} {x2 : Int32} (hv0 : w0 < 3) {v : Int32} {σ1 : Sg} (hf : f_World_yardsWithout w0 x1 x2 σ = some (v, σ1)) (hst : (st.map (fun v => v.category)).sum ≤ 8) (k : Z x g nL ρ (pc + 3) L (.int v :: st) σ1) : Z x g nL ρ pc L (.int x2 :: .int x1 :: .ref (gAd g (1, w0, 0)) :: st) σ := z_callV (ci := 9) (As := [.int x1, .int x2]) hc hd vl_X_238 hdd (1, w0, 0) (dm_World hv0) rfl rfl (ok_World_yardsWithout g w0 x1 x2 hv0 σ (v, σ1) hf) rfl rfl hst rfl k
def b_X_bestYardInTrial_7 (w1 : Nat) (c1 : Nat) (x2 : Int32) (x3 : Int32) (x4 : Int32) (σ : Sg) : Option ((Int32 × Int32 × Int32 × Sg) ⊕ (Int32 × Sg)) :=
  (if (iI 40) ≤ x4 then some (.inr (x2, σ)) else b2 (f_World_survey 2 (upI σ 2 w1 c1 5 x4)) (fun v1 σ2 => b2 (f_World_yardsWithout 2 (σ2.1 2 w1 c1 1) (iI 0) σ2) (fun v4 σ5 => (if v4 ≤ x3 then some (.inl (x2, x3, x4 + (iI 1), σ5)) else some (.inl (x4, v4, x4 + (iI 1), σ5))))))
theorem sb_X_bestYardInTrial_7 {x : Cx} {g : Gv} {ρ : Option Value × Sg} (hc : Zc x g c_X_bestYardInTrial R_X 6 (some .int) 5) (w1 : Nat) (c1 : Nat) (hv1 : okR w1 c1) (x2 : Int32) (x3 : Int32) (x4 : Int32) (σ : Sg) (r : (Int32 × Int32 × Int32 × Sg) ⊕ (Int32 × Sg)) (hf : b_X_bestYardInTrial_7 w1 c1 x2 x3 x4 σ = some r) (hi : ∀ a', r = .inl a' → Z x g 6 ρ 7 [(0, .ref (gAd g (0, 0, 0))), (1, .ref (gAd g (2, w1, c1))), (2, .int a'.1), (3, .int a'.2.1), (4, .int a'.2.2.1)] [] a'.2.2.2) (he0 : ∀ b, r = .inr b → Z x g 6 ρ 59 [(2, .int b.1)] [] b.2) : Z x g 6 ρ 7 [(0, .ref (gAd g (0, 0, 0))), (1, .ref (gAd g (2, w1, c1))), (2, .int x2), (3, .int x3), (4, .int x4)] [] σ := by
  unfold b_X_bestYardInTrial_7 at hf
  refine z_iload hc d_X_bestYardInTrial_7 4 rfl ?_
  refine z_bipush (v := (iI 40)) hc d_X_bestYardInTrial_9 (by decide) ?_
  refine z_icmp_ge (tgt := 59) hc d_X_bestYardInTrial_11 (by decide) (fun hq => ?_) (fun hq => ?_)
  · have hf := ifp hq hf
    refine z_sub [2] (L' := [(2, .int x2)]) rfl ?_
    exact he0 (x2, σ) (Option.some.inj hf).symm
  · have hf := ifn hq hf
    refine z_aload_n hc d_X_bestYardInTrial_14 1 rfl ?_
    refine z_iload hc d_X_bestYardInTrial_15 4 rfl ?_
    refine pf_X_149 hc d_X_bestYardInTrial_17 hv1 ?_
    refine z_aload_n hc d_X_bestYardInTrial_20 0 rfl ?_
    refine gf_X_57 hc d_X_bestYardInTrial_21  ?_
    obtain ⟨v1, σ2, h3, hf⟩ := bd2 hf
    refine cz_X_232 hc d_X_bestYardInTrial_24 (by decide) (by decide) h3 (Nat.le_of_ble_eq_true rfl) ?_
    refine z_aload_n hc d_X_bestYardInTrial_27 0 rfl ?_
    refine gf_X_57 hc d_X_bestYardInTrial_28  ?_
    refine z_aload_n hc d_X_bestYardInTrial_31 1 rfl ?_
    refine gf_X_309 hc d_X_bestYardInTrial_32 hv1 ?_
    refine z_iconst (v := (iI 0)) hc d_X_bestYardInTrial_35 (by decide) ?_
    obtain ⟨v4, σ5, h6, hf⟩ := bd2 hf
    refine cz_X_238 hc d_X_bestYardInTrial_36 (by decide) (by decide) h6 (Nat.le_of_ble_eq_true rfl) ?_
    refine z_istore (L' := [(5, .int v4), (0, .ref (gAd g (0, 0, 0))), (1, .ref (gAd g (2, w1, c1))), (2, .int x2), (3, .int x3), (4, .int x4)]) hc d_X_bestYardInTrial_39 (by decide) rfl ?_
    refine z_iload hc d_X_bestYardInTrial_41 0 rfl ?_
    refine z_iload_n hc d_X_bestYardInTrial_43 4 rfl ?_
    refine z_icmp_le (tgt := 53) hc d_X_bestYardInTrial_44 (by decide) (fun hq => ?_) (fun hq => ?_)
    · have hf := ifp hq hf
      refine z_iinc (v := x4 + (iI 1)) (L' := [(4, .int (x4 + (iI 1))), (5, .int v4), (0, .ref (gAd g (0, 0, 0))), (1, .ref (gAd g (2, w1, c1))), (2, .int x2), (3, .int x3)]) hc d_X_bestYardInTrial_53 5 rfl rfl (by decide) rfl ?_
      refine z_goto (tgt := 7) hc d_X_bestYardInTrial_56 (by decide) ?_
      refine z_sub [2, 3, 4, 5, 0] (L' := [(0, .ref (gAd g (0, 0, 0))), (1, .ref (gAd g (2, w1, c1))), (2, .int x2), (3, .int x3), (4, .int (x4 + (iI 1)))]) rfl ?_
      exact hi (x2, x3, x4 + (iI 1), σ5) (Option.some.inj hf).symm
    · have hf := ifn hq hf
      refine z_iload hc d_X_bestYardInTrial_47 0 rfl ?_
      refine z_istore_n (L' := [(3, .int v4), (5, .int v4), (0, .ref (gAd g (0, 0, 0))), (1, .ref (gAd g (2, w1, c1))), (2, .int x2), (4, .int x4)]) hc d_X_bestYardInTrial_49 (by decide) rfl ?_
      refine z_iload hc d_X_bestYardInTrial_50 5 rfl ?_
      refine z_istore_n (L' := [(2, .int x4), (3, .int v4), (5, .int v4), (0, .ref (gAd g (0, 0, 0))), (1, .ref (gAd g (2, w1, c1))), (4, .int x4)]) hc d_X_bestYardInTrial_52 (by decide) rfl ?_
      refine z_iinc (v := x4 + (iI 1)) (L' := [(4, .int (x4 + (iI 1))), (2, .int x4), (3, .int v4), (5, .int v4), (0, .ref (gAd g (0, 0, 0))), (1, .ref (gAd g (2, w1, c1)))]) hc d_X_bestYardInTrial_53 5 rfl rfl (by decide) rfl ?_
      refine z_goto (tgt := 7) hc d_X_bestYardInTrial_56 (by decide) ?_
      refine z_sub [4, 5, 1, 2, 0] (L' := [(0, .ref (gAd g (0, 0, 0))), (1, .ref (gAd g (2, w1, c1))), (2, .int x4), (3, .int v4), (4, .int (x4 + (iI 1)))]) rfl ?_
      exact hi (x4, v4, x4 + (iI 1), σ5) (Option.some.inj hf).symm
def f_X_bestYardInTrial (w1 : Nat) (c1 : Nat) (σ : Sg) : Option (Int32 × Sg) :=
  Option.bind (lp (fun a => b_X_bestYardInTrial_7 w1 c1 a.1 a.2.1 a.2.2.1 a.2.2.2) FU ((iI 0), (iI (-1)), (iI 0), σ)) (fun b10 => some (b10.1, b10.2))
theorem ok_X_bestYardInTrial (g : Gv) (w1 : Nat) (c1 : Nat) (hv1 : okR w1 c1) (σ : Sg) (r : Int32 × Sg) (hf : f_X_bestYardInTrial w1 c1 σ = some r) : Ok g y_X_bestYardInTrial c_X_bestYardInTrial 6 (some .int) 5 [.ref (gAd g (0, 0, 0)), .ref (gAd g (2, w1, c1))] σ (some (.int r.1), r.2) := by
  unfold f_X_bestYardInTrial at hf
  refine Ok.of [(0, .ref (gAd g (0, 0, 0))), (1, .ref (gAd g (2, w1, c1)))] (by decide) (Nat.le_of_ble_eq_true rfl) rfl ?_
  intro x hc
  have hc : Zc x g c_X_bestYardInTrial R_X 6 (some .int) 5 := hc
  obtain ⟨ρ, hρ⟩ : ∃ ρ : Option Value × Sg, ρ = (some (.int r.1), r.2) := ⟨_, rfl⟩
  rw [← hρ]
  refine z_iconst (v := (iI 0)) hc d_X_bestYardInTrial_0 (by decide) ?_
  refine z_istore_n (L' := [(2, .int (iI 0)), (0, .ref (gAd g (0, 0, 0))), (1, .ref (gAd g (2, w1, c1)))]) hc d_X_bestYardInTrial_1 (by decide) rfl ?_
  refine z_iconst (v := (iI (-1))) hc d_X_bestYardInTrial_2 (by decide) ?_
  refine z_istore_n (L' := [(3, .int (iI (-1))), (2, .int (iI 0)), (0, .ref (gAd g (0, 0, 0))), (1, .ref (gAd g (2, w1, c1)))]) hc d_X_bestYardInTrial_3 (by decide) rfl ?_
  refine z_iconst (v := (iI 0)) hc d_X_bestYardInTrial_4 (by decide) ?_
  refine z_istore (L' := [(4, .int (iI 0)), (3, .int (iI (-1))), (2, .int (iI 0)), (0, .ref (gAd g (0, 0, 0))), (1, .ref (gAd g (2, w1, c1)))]) hc d_X_bestYardInTrial_5 (by decide) rfl ?_
  refine z_sub [3, 4, 2, 1, 0] (L' := [(0, .ref (gAd g (0, 0, 0))), (1, .ref (gAd g (2, w1, c1))), (2, .int (iI 0)), (3, .int (iI (-1))), (4, .int (iI 0))]) rfl ?_
  obtain ⟨⟨y8, σ9⟩, hl11, hf⟩ := bd hf
  try dsimp only at hf
  refine lp_walk (α := (Int32 × Int32 × Int32 × Sg)) (β := (Int32 × Sg)) (body := (fun a : (Int32 × Int32 × Int32 × Sg) => b_X_bestYardInTrial_7 w1 c1 a.1 a.2.1 a.2.2.1 a.2.2.2)) (In := (fun a : (Int32 × Int32 × Int32 × Sg) => Z x g 6 ρ 7 [(0, .ref (gAd g (0, 0, 0))), (1, .ref (gAd g (2, w1, c1))), (2, .int a.1), (3, .int a.2.1), (4, .int a.2.2.1)] [] a.2.2.2)) (Out := (fun b => Z x g 6 ρ 59 [(2, .int b.1)] [] b.2)) (fun a r hb hi ho => sb_X_bestYardInTrial_7 hc w1 c1 hv1 a.1 a.2.1 a.2.2.1 a.2.2.2 r hb hi (fun b e => ho _ e)) FU ((iI 0), (iI (-1)), (iI 0), σ) _ hl11 ?_
  dsimp only
  refine z_iload_n hc d_X_bestYardInTrial_59 0 rfl ?_
  exact z_iret hc d_X_bestYardInTrial_60 (rI hf hρ)
theorem vl_X_229 : VL R_X 229 y_X_bestYardInTrial c_X_bestYardInTrial 6 (some .int) 1 := ⟨tb3 130 (by decide +kernel) (by decide +kernel), tb3 132 (by decide +kernel) (by decide +kernel), tbp 5 (by decide +kernel), tb1 1 (by decide +kernel) (by decide +kernel), k_X_bestYardInTrial, by decide, by decide, by decide +kernel, by decide⟩
theorem cz_X_229 {x : Cx} {g : Gv} {cc : ByteArray} {nL d pc : Nat} {ret : Option FieldType} {ρ : Option Value × Sg} {L : List (Nat × Value)} {st : List Value} {σ : Sg} (hc : Zc x g cc R_X nL ret d) (hd : decode cc pc = .ok (.invokevirtual 229, 3)) (hdd : 6 ≤ d) {w1 : Nat} {c1 : Nat} (hv1 : okR w1 c1) {v : Int32} {σ1 : Sg} (hf : f_X_bestYardInTrial w1 c1 σ = some (v, σ1)) (hst : (st.map (fun v => v.category)).sum ≤ 8) (k : Z x g nL ρ (pc + 3) L (.int v :: st) σ1) : Z x g nL ρ pc L (.ref (gAd g (2, w1, c1)) :: .ref (gAd g (0, 0, 0)) :: st) σ := z_callV (ci := 10) (As := [.ref (gAd g (2, w1, c1))]) hc hd vl_X_229 hdd (0, 0, 0) (dm_X) rfl rfl (ok_X_bestYardInTrial g w1 c1 hv1 σ (v, σ1) hf) rfl rfl hst rfl k
def j_X_best_18 (σ : Sg) : Option (Int32 × Sg) :=
  b2 (f_X_found (iI (-1000000001)) σ) (fun v4 σ5 => some (v4, σ5))
theorem sj_X_best_18 {x : Cx} {g : Gv} {ρ : Option Value × Sg} (hc : Zc x g c_X_best R_X 4 (some .int) 6) (σ : Sg) (r : Int32 × Sg) (hf : j_X_best_18 σ = some r) (hρ : ρ = (some (.int r.1), r.2)) : Z x g 4 ρ 18 [(0, .ref (gAd g (0, 0, 0)))] [] σ := by
  unfold j_X_best_18 at hf
  refine z_aload_n hc d_X_best_18 0 rfl ?_
  refine z_ldc (v := (iI (-1000000001))) hc co_X_89 d_X_best_19 ?_
  obtain ⟨v4, σ5, h6, hf⟩ := bd2 hf
  refine cz_X_90 hc d_X_best_21 (by decide)  h6 (Nat.le_of_ble_eq_true rfl) ?_
  exact z_iret hc d_X_best_24 (rI hf hρ)
def f_X_best (x1 : Int32) (x2 : Int32) (σ : Sg) : Option (Int32 × Sg) :=
  b2 (f_X_isRug x1 σ) (fun v1 σ2 => (if v1 = (iI 0) then j_X_best_18   σ2 else b2 (f_X_within x2 (iI 0) (iI 60) σ2) (fun v7 σ8 => (if v7 = (iI 0) then j_X_best_18   σ8 else Option.bind (rd x1 8) (fun j10 => (if (σ8.1 2 0 j10 3) = (iI 0) then b2 (f_X_found (iI (-1000000005)) σ8) (fun v29 σ30 => some (v29, σ30)) else b2 (f_World_become 2 0 σ8) (fun v12 σ13 => Option.bind (rd x1 8) (fun j15 => b2 (f_World_layOut 2 2 j15 (iI 0) σ13) (fun v17 σ18 => b2 (f_World_passDays 2 x2 σ18) (fun v20 σ21 => b2 (f_Rug_isOut 2 j15 σ21) (fun v23 σ24 => (if v23 = (iI 0) then some ((iI 0), σ24) else b2 (f_X_bestYardInTrial 2 j15 σ24) (fun v26 σ27 => some (v26, σ27))))))))))))))
theorem ok_X_best (g : Gv) (x1 : Int32) (x2 : Int32) (σ : Sg) (r : Int32 × Sg) (hf : f_X_best x1 x2 σ = some r) : Ok g y_X_best c_X_best 4 (some .int) 6 [.ref (gAd g (0, 0, 0)), .int x1, .int x2] σ (some (.int r.1), r.2) := by
  unfold f_X_best at hf
  refine Ok.of [(0, .ref (gAd g (0, 0, 0))), (1, .int x1), (2, .int x2)] (by decide) (Nat.le_of_ble_eq_true rfl) rfl ?_
  intro x hc
  have hc : Zc x g c_X_best R_X 4 (some .int) 6 := hc
  obtain ⟨ρ, hρ⟩ : ∃ ρ : Option Value × Sg, ρ = (some (.int r.1), r.2) := ⟨_, rfl⟩
  rw [← hρ]
  refine z_aload_n hc d_X_best_0 0 rfl ?_
  refine z_iload_n hc d_X_best_1 1 rfl ?_
  obtain ⟨v1, σ2, h3, hf⟩ := bd2 hf
  refine cz_X_131 hc d_X_best_2 (by decide)  h3 (Nat.le_of_ble_eq_true rfl) ?_
  refine z_if_eq (tgt := 18) hc d_X_best_5 (by decide) (fun hq => ?_) (fun hq => ?_)
  · have hf := ifp hq hf
    refine z_sub [0] (L' := [(0, .ref (gAd g (0, 0, 0)))]) rfl ?_
    exact sj_X_best_18 hc     σ2 _ hf hρ
  · have hf := ifn hq hf
    refine z_iload_n hc d_X_best_8 2 rfl ?_
    refine z_iconst (v := (iI 0)) hc d_X_best_9 (by decide) ?_
    refine z_bipush (v := (iI 60)) hc d_X_best_10 (by decide) ?_
    obtain ⟨v7, σ8, h9, hf⟩ := bd2 hf
    refine cz_X_85 hc d_X_best_12 (by decide)  h9 (Nat.le_of_ble_eq_true rfl) ?_
    refine z_if_ne (tgt := 25) hc d_X_best_15 (by decide) (fun hq => ?_) (fun hq => ?_)
    · have hf := ifn hq hf
      refine z_aload_n hc d_X_best_25 0 rfl ?_
      refine gf_X_50 hc d_X_best_26  ?_
      refine gf_X_135 hc d_X_best_29 (by decide) ?_
      refine z_iload_n hc d_X_best_32 1 rfl ?_
      obtain ⟨j10, hj11, hf⟩ := bd hf
      refine ald_rugs hc d_X_best_33 (by decide) hj11 ?_
      refine gf_X_178 hc d_X_best_34 (okR_of (by decide) (rd_lt hj11)) ?_
      refine z_if_ne (tgt := 47) hc d_X_best_37 (by decide) (fun hq => ?_) (fun hq => ?_)
      · have hf := ifn hq hf
        refine z_aload_n hc d_X_best_47 0 rfl ?_
        refine gf_X_57 hc d_X_best_48  ?_
        refine z_aload_n hc d_X_best_51 0 rfl ?_
        refine gf_X_50 hc d_X_best_52  ?_
        obtain ⟨v12, σ13, h14, hf⟩ := bd2 hf
        refine cz_X_219 hc d_X_best_55 (by decide) (by decide) (by decide) h14 (Nat.le_of_ble_eq_true rfl) ?_
        refine z_aload_n hc d_X_best_58 0 rfl ?_
        refine gf_X_57 hc d_X_best_59  ?_
        refine gf_X_135 hc d_X_best_62 (by decide) ?_
        refine z_iload_n hc d_X_best_65 1 rfl ?_
        obtain ⟨j15, hj16, hf⟩ := bd hf
        refine ald_rugs hc d_X_best_66 (by decide) hj16 ?_
        refine z_astore_n (L' := [(3, .ref (gAd g (2, 2, j15))), (0, .ref (gAd g (0, 0, 0))), (1, .int x1), (2, .int x2)]) hc d_X_best_67 (by decide) rfl ?_
        refine z_aload_n hc d_X_best_68 1 rfl ?_
        refine gf_X_57 hc d_X_best_69  ?_
        refine z_aload_n hc d_X_best_72 0 rfl ?_
        refine z_iconst (v := (iI 0)) hc d_X_best_73 (by decide) ?_
        obtain ⟨v17, σ18, h19, hf⟩ := bd2 hf
        refine cz_X_182 hc d_X_best_74 (by decide) (by decide) (okR_of (by decide) (rd_lt hj16)) h19 (Nat.le_of_ble_eq_true rfl) ?_
        refine z_aload_n hc d_X_best_77 1 rfl ?_
        refine gf_X_57 hc d_X_best_78  ?_
        refine z_iload_n hc d_X_best_81 3 rfl ?_
        obtain ⟨v20, σ21, h22, hf⟩ := bd2 hf
        refine cz_X_208 hc d_X_best_82 (by decide) (by decide) h22 (Nat.le_of_ble_eq_true rfl) ?_
        refine z_aload_n hc d_X_best_85 0 rfl ?_
        obtain ⟨v23, σ24, h25, hf⟩ := bd2 hf
        refine cz_X_189 hc d_X_best_86 (by decide) (okR_of (by decide) (rd_lt hj16)) h25 (Nat.le_of_ble_eq_true rfl) ?_
        refine z_if_eq (tgt := 100) hc d_X_best_89 (by decide) (fun hq => ?_) (fun hq => ?_)
        · have hf := ifp hq hf
          refine z_iconst (v := (iI 0)) hc d_X_best_100 (by decide) ?_
          exact z_iret hc d_X_best_101 (rI hf hρ)
        · have hf := ifn hq hf
          refine z_aload_n hc d_X_best_92 1 rfl ?_
          refine z_aload_n hc d_X_best_93 0 rfl ?_
          obtain ⟨v26, σ27, h28, hf⟩ := bd2 hf
          refine cz_X_229 hc d_X_best_94 (by decide) (okR_of (by decide) (rd_lt hj16)) h28 (Nat.le_of_ble_eq_true rfl) ?_
          refine z_goto (tgt := 101) hc d_X_best_97 (by decide) ?_
          exact z_iret hc d_X_best_101 (rI hf hρ)
      · have hf := ifp hq hf
        refine z_aload_n hc d_X_best_40 0 rfl ?_
        refine z_ldc (v := (iI (-1000000005))) hc co_X_181 d_X_best_41 ?_
        obtain ⟨v29, σ30, h31, hf⟩ := bd2 hf
        refine cz_X_90 hc d_X_best_43 (by decide)  h31 (Nat.le_of_ble_eq_true rfl) ?_
        exact z_iret hc d_X_best_46 (rI hf hρ)
    · have hf := ifp hq hf
      refine z_sub [0] (L' := [(0, .ref (gAd g (0, 0, 0)))]) rfl ?_
      exact sj_X_best_18 hc     σ8 _ hf hρ
def j_X_take_19 (σ : Sg) : Option (Int32 × Sg) :=
  b2 (f_X_found (iI (-1000000001)) σ) (fun v4 σ5 => some (v4, σ5))
theorem sj_X_take_19 {x : Cx} {g : Gv} {ρ : Option Value × Sg} (hc : Zc x g c_X_take R_X 7 (some .int) 5) (σ : Sg) (r : Int32 × Sg) (hf : j_X_take_19 σ = some r) (hρ : ρ = (some (.int r.1), r.2)) : Z x g 7 ρ 19 [(0, .ref (gAd g (0, 0, 0)))] [] σ := by
  unfold j_X_take_19 at hf
  refine z_aload_n hc d_X_take_19 0 rfl ?_
  refine z_ldc (v := (iI (-1000000001))) hc co_X_89 d_X_take_20 ?_
  obtain ⟨v4, σ5, h6, hf⟩ := bd2 hf
  refine cz_X_90 hc d_X_take_22 (by decide)  h6 (Nat.le_of_ble_eq_true rfl) ?_
  exact z_iret hc d_X_take_25 (rI hf hρ)
def b_X_take_60 (x1 : Int32) (x3 : Int32) (x4 : Int32) (x5 : Int32) (σ : Sg) : Option ((Int32 × Int32 × Int32 × Sg) ⊕ (Int32 × Sg)) :=
  (if (σ.1 1 0 0 0) ≤ x5 then some (.inr (x3, σ)) else Option.bind (rd x5 8) (fun j19 => b2 (f_Rug_isOut 0 j19 σ) (fun v21 σ22 => (if v21 = (iI 0) then some (.inl (x3, x4, x5 + (iI 1), σ22)) else b2 (f_World_yardsWithout 2 x1 ((iI 1) <<< (x5 &&& 31)) σ22) (fun v24 σ25 => (if v24 ≤ x4 then some (.inl (x3, x4, x5 + (iI 1), σ25)) else some (.inl (x5, v24, x5 + (iI 1), σ25))))))))
theorem sb_X_take_60 {x : Cx} {g : Gv} {ρ : Option Value × Sg} (hc : Zc x g c_X_take R_X 7 (some .int) 5) (x1 : Int32) (x3 : Int32) (x4 : Int32) (x5 : Int32) (σ : Sg) (r : (Int32 × Int32 × Int32 × Sg) ⊕ (Int32 × Sg)) (hf : b_X_take_60 x1 x3 x4 x5 σ = some r) (hi : ∀ a', r = .inl a' → Z x g 7 ρ 60 [(0, .ref (gAd g (0, 0, 0))), (1, .int x1), (3, .int a'.1), (4, .int a'.2.1), (5, .int a'.2.2.1)] [] a'.2.2.2) (he0 : ∀ b, r = .inr b → Z x g 7 ρ 122 [(0, .ref (gAd g (0, 0, 0))), (3, .int b.1)] [] b.2) : Z x g 7 ρ 60 [(0, .ref (gAd g (0, 0, 0))), (1, .int x1), (3, .int x3), (4, .int x4), (5, .int x5)] [] σ := by
  unfold b_X_take_60 at hf
  refine z_iload hc d_X_take_60 4 rfl ?_
  refine z_aload_n hc d_X_take_62 0 rfl ?_
  refine gf_X_50 hc d_X_take_63  ?_
  refine gf_X_235 hc d_X_take_66 (by decide) ?_
  refine z_icmp_ge (tgt := 122) hc d_X_take_69 (by decide) (fun hq => ?_) (fun hq => ?_)
  · have hf := ifp hq hf
    refine z_sub [0, 2] (L' := [(0, .ref (gAd g (0, 0, 0))), (3, .int x3)]) rfl ?_
    exact he0 (x3, σ) (Option.some.inj hf).symm
  · have hf := ifn hq hf
    refine z_aload_n hc d_X_take_72 0 rfl ?_
    refine gf_X_50 hc d_X_take_73  ?_
    refine gf_X_135 hc d_X_take_76 (by decide) ?_
    refine z_iload hc d_X_take_79 4 rfl ?_
    obtain ⟨j19, hj20, hf⟩ := bd hf
    refine ald_rugs hc d_X_take_81 (by decide) hj20 ?_
    obtain ⟨v21, σ22, h23, hf⟩ := bd2 hf
    refine cz_X_189 hc d_X_take_82 (by decide) (okR_of (by decide) (rd_lt hj20)) h23 (Nat.le_of_ble_eq_true rfl) ?_
    refine z_if_eq (tgt := 116) hc d_X_take_85 (by decide) (fun hq => ?_) (fun hq => ?_)
    · have hf := ifp hq hf
      refine z_iinc (v := x5 + (iI 1)) (L' := [(5, .int (x5 + (iI 1))), (0, .ref (gAd g (0, 0, 0))), (1, .int x1), (3, .int x3), (4, .int x4)]) hc d_X_take_116 4 rfl rfl (by decide) rfl ?_
      refine z_goto (tgt := 60) hc d_X_take_119 (by decide) ?_
      refine z_sub [1, 2, 3, 4, 0] (L' := [(0, .ref (gAd g (0, 0, 0))), (1, .int x1), (3, .int x3), (4, .int x4), (5, .int (x5 + (iI 1)))]) rfl ?_
      exact hi (x3, x4, x5 + (iI 1), σ22) (Option.some.inj hf).symm
    · have hf := ifn hq hf
      refine z_aload_n hc d_X_take_88 0 rfl ?_
      refine gf_X_57 hc d_X_take_89  ?_
      refine z_iload_n hc d_X_take_92 1 rfl ?_
      refine z_iconst (v := (iI 1)) hc d_X_take_93 (by decide) ?_
      refine z_iload hc d_X_take_94 4 rfl ?_
      refine z_ishl hc d_X_take_96 ?_
      obtain ⟨v24, σ25, h26, hf⟩ := bd2 hf
      refine cz_X_238 hc d_X_take_97 (by decide) (by decide) h26 (Nat.le_of_ble_eq_true rfl) ?_
      refine z_istore (L' := [(6, .int v24), (0, .ref (gAd g (0, 0, 0))), (1, .int x1), (3, .int x3), (4, .int x4), (5, .int x5)]) hc d_X_take_100 (by decide) rfl ?_
      refine z_iload hc d_X_take_102 0 rfl ?_
      refine z_iload hc d_X_take_104 4 rfl ?_
      refine z_icmp_le (tgt := 116) hc d_X_take_106 (by decide) (fun hq => ?_) (fun hq => ?_)
      · have hf := ifp hq hf
        refine z_iinc (v := x5 + (iI 1)) (L' := [(5, .int (x5 + (iI 1))), (6, .int v24), (0, .ref (gAd g (0, 0, 0))), (1, .int x1), (3, .int x3), (4, .int x4)]) hc d_X_take_116 5 rfl rfl (by decide) rfl ?_
        refine z_goto (tgt := 60) hc d_X_take_119 (by decide) ?_
        refine z_sub [2, 3, 4, 5, 0] (L' := [(0, .ref (gAd g (0, 0, 0))), (1, .int x1), (3, .int x3), (4, .int x4), (5, .int (x5 + (iI 1)))]) rfl ?_
        exact hi (x3, x4, x5 + (iI 1), σ25) (Option.some.inj hf).symm
      · have hf := ifn hq hf
        refine z_iload hc d_X_take_109 0 rfl ?_
        refine z_istore (L' := [(4, .int v24), (6, .int v24), (0, .ref (gAd g (0, 0, 0))), (1, .int x1), (3, .int x3), (5, .int x5)]) hc d_X_take_111 (by decide) rfl ?_
        refine z_iload hc d_X_take_113 5 rfl ?_
        refine z_istore_n (L' := [(3, .int x5), (4, .int v24), (6, .int v24), (0, .ref (gAd g (0, 0, 0))), (1, .int x1), (5, .int x5)]) hc d_X_take_115 (by decide) rfl ?_
        refine z_iinc (v := x5 + (iI 1)) (L' := [(5, .int (x5 + (iI 1))), (3, .int x5), (4, .int v24), (6, .int v24), (0, .ref (gAd g (0, 0, 0))), (1, .int x1)]) hc d_X_take_116 5 rfl rfl (by decide) rfl ?_
        refine z_goto (tgt := 60) hc d_X_take_119 (by decide) ?_
        refine z_sub [4, 5, 1, 2, 0] (L' := [(0, .ref (gAd g (0, 0, 0))), (1, .int x1), (3, .int x5), (4, .int v24), (5, .int (x5 + (iI 1)))]) rfl ?_
        exact hi (x5, v24, x5 + (iI 1), σ25) (Option.some.inj hf).symm
def f_X_take (x1 : Int32) (x2 : Int32) (σ : Sg) : Option (Int32 × Sg) :=
  b2 (f_X_within x1 (iI 0) (iI 3) σ) (fun v1 σ2 => (if v1 = (iI 0) then j_X_take_19   σ2 else b2 (f_X_within x2 (iI 0) (iI 60) σ2) (fun v7 σ8 => (if v7 = (iI 0) then j_X_take_19   σ8 else b2 (f_World_become 2 0 σ8) (fun v10 σ11 => b2 (f_World_passDays 2 x2 σ11) (fun v13 σ14 => b2 (f_World_survey 2 σ14) (fun v16 σ17 => Option.bind (lp (fun a => b_X_take_60 x1 a.1 a.2.1 a.2.2.1 a.2.2.2) FU ((iI (-1)), (iI (-1)), (iI 0), σ17)) (fun b33 => (if (iI 0) ≤ b33.1 then some (b33.1, b33.2) else b2 (f_X_found (iI (-1000000004)) b33.2) (fun v30 σ31 => some (v30, σ31)))))))))))
theorem ok_X_take (g : Gv) (x1 : Int32) (x2 : Int32) (σ : Sg) (r : Int32 × Sg) (hf : f_X_take x1 x2 σ = some r) : Ok g y_X_take c_X_take 7 (some .int) 5 [.ref (gAd g (0, 0, 0)), .int x1, .int x2] σ (some (.int r.1), r.2) := by
  unfold f_X_take at hf
  refine Ok.of [(0, .ref (gAd g (0, 0, 0))), (1, .int x1), (2, .int x2)] (by decide) (Nat.le_of_ble_eq_true rfl) rfl ?_
  intro x hc
  have hc : Zc x g c_X_take R_X 7 (some .int) 5 := hc
  obtain ⟨ρ, hρ⟩ : ∃ ρ : Option Value × Sg, ρ = (some (.int r.1), r.2) := ⟨_, rfl⟩
  rw [← hρ]
  refine z_iload_n hc d_X_take_0 1 rfl ?_
  refine z_iconst (v := (iI 0)) hc d_X_take_1 (by decide) ?_
  refine z_iconst (v := (iI 3)) hc d_X_take_2 (by decide) ?_
  obtain ⟨v1, σ2, h3, hf⟩ := bd2 hf
  refine cz_X_85 hc d_X_take_3 (by decide)  h3 (Nat.le_of_ble_eq_true rfl) ?_
  refine z_if_eq (tgt := 19) hc d_X_take_6 (by decide) (fun hq => ?_) (fun hq => ?_)
  · have hf := ifp hq hf
    refine z_sub [0] (L' := [(0, .ref (gAd g (0, 0, 0)))]) rfl ?_
    exact sj_X_take_19 hc     σ2 _ hf hρ
  · have hf := ifn hq hf
    refine z_iload_n hc d_X_take_9 2 rfl ?_
    refine z_iconst (v := (iI 0)) hc d_X_take_10 (by decide) ?_
    refine z_bipush (v := (iI 60)) hc d_X_take_11 (by decide) ?_
    obtain ⟨v7, σ8, h9, hf⟩ := bd2 hf
    refine cz_X_85 hc d_X_take_13 (by decide)  h9 (Nat.le_of_ble_eq_true rfl) ?_
    refine z_if_ne (tgt := 26) hc d_X_take_16 (by decide) (fun hq => ?_) (fun hq => ?_)
    · have hf := ifn hq hf
      refine z_aload_n hc d_X_take_26 0 rfl ?_
      refine gf_X_57 hc d_X_take_27  ?_
      refine z_aload_n hc d_X_take_30 0 rfl ?_
      refine gf_X_50 hc d_X_take_31  ?_
      obtain ⟨v10, σ11, h12, hf⟩ := bd2 hf
      refine cz_X_219 hc d_X_take_34 (by decide) (by decide) (by decide) h12 (Nat.le_of_ble_eq_true rfl) ?_
      refine z_aload_n hc d_X_take_37 0 rfl ?_
      refine gf_X_57 hc d_X_take_38  ?_
      refine z_iload_n hc d_X_take_41 2 rfl ?_
      obtain ⟨v13, σ14, h15, hf⟩ := bd2 hf
      refine cz_X_208 hc d_X_take_42 (by decide) (by decide) h15 (Nat.le_of_ble_eq_true rfl) ?_
      refine z_aload_n hc d_X_take_45 0 rfl ?_
      refine gf_X_57 hc d_X_take_46  ?_
      obtain ⟨v16, σ17, h18, hf⟩ := bd2 hf
      refine cz_X_232 hc d_X_take_49 (by decide) (by decide) h18 (Nat.le_of_ble_eq_true rfl) ?_
      refine z_iconst (v := (iI (-1))) hc d_X_take_52 (by decide) ?_
      refine z_istore_n (L' := [(3, .int (iI (-1))), (0, .ref (gAd g (0, 0, 0))), (1, .int x1), (2, .int x2)]) hc d_X_take_53 (by decide) rfl ?_
      refine z_iconst (v := (iI (-1))) hc d_X_take_54 (by decide) ?_
      refine z_istore (L' := [(4, .int (iI (-1))), (3, .int (iI (-1))), (0, .ref (gAd g (0, 0, 0))), (1, .int x1), (2, .int x2)]) hc d_X_take_55 (by decide) rfl ?_
      refine z_iconst (v := (iI 0)) hc d_X_take_57 (by decide) ?_
      refine z_istore (L' := [(5, .int (iI 0)), (4, .int (iI (-1))), (3, .int (iI (-1))), (0, .ref (gAd g (0, 0, 0))), (1, .int x1), (2, .int x2)]) hc d_X_take_58 (by decide) rfl ?_
      refine z_sub [3, 4, 2, 1, 0] (L' := [(0, .ref (gAd g (0, 0, 0))), (1, .int x1), (3, .int (iI (-1))), (4, .int (iI (-1))), (5, .int (iI 0))]) rfl ?_
      obtain ⟨⟨y28, σ29⟩, hl34, hf⟩ := bd hf
      try dsimp only at hf
      refine lp_walk (α := (Int32 × Int32 × Int32 × Sg)) (β := (Int32 × Sg)) (body := (fun a : (Int32 × Int32 × Int32 × Sg) => b_X_take_60 x1 a.1 a.2.1 a.2.2.1 a.2.2.2)) (In := (fun a : (Int32 × Int32 × Int32 × Sg) => Z x g 7 ρ 60 [(0, .ref (gAd g (0, 0, 0))), (1, .int x1), (3, .int a.1), (4, .int a.2.1), (5, .int a.2.2.1)] [] a.2.2.2)) (Out := (fun b => Z x g 7 ρ 122 [(0, .ref (gAd g (0, 0, 0))), (3, .int b.1)] [] b.2)) (fun a r hb hi ho => sb_X_take_60 hc x1  a.1 a.2.1 a.2.2.1 a.2.2.2 r hb hi (fun b e => ho _ e)) FU ((iI (-1)), (iI (-1)), (iI 0), σ17) _ hl34 ?_
      dsimp only
      refine z_iload_n hc d_X_take_122 1 rfl ?_
      refine z_if_ge (tgt := 135) hc d_X_take_123 (by decide) (fun hq => ?_) (fun hq => ?_)
      · have hf := ifp hq hf
        refine z_iload_n hc d_X_take_135 1 rfl ?_
        exact z_iret hc d_X_take_136 (rI hf hρ)
      · have hf := ifn hq hf
        refine z_aload_n hc d_X_take_126 0 rfl ?_
        refine z_ldc (v := (iI (-1000000004))) hc co_X_225 d_X_take_127 ?_
        obtain ⟨v30, σ31, h32, hf⟩ := bd2 hf
        refine cz_X_90 hc d_X_take_129 (by decide)  h32 (Nat.le_of_ble_eq_true rfl) ?_
        refine z_goto (tgt := 136) hc d_X_take_132 (by decide) ?_
        exact z_iret hc d_X_take_136 (rI hf hρ)
    · have hf := ifp hq hf
      refine z_sub [0] (L' := [(0, .ref (gAd g (0, 0, 0)))]) rfl ?_
      exact sj_X_take_19 hc     σ8 _ hf hρ
def b_X_kind_22 (x1 : Int32) (x2 : Int32) (x3 : Int32) (x4 : Int32) (σ : Sg) : Option ((Int32 × Int32 × Int32 × Sg) ⊕ (Int32 × Sg)) :=
  (if (iI 6) ≤ x4 then some (.inr (x2, σ)) else Option.bind (rd x1 8) (fun j4 => b2 (f_Rug_become 3 0 0 j4 σ) (fun v6 σ7 => Option.bind (rd x4 6) (fun j9 => b2 (f_X_daysProbeLies  (upK σ7 2 3 0 j9)) (fun v11 σ12 => (if v11 ≤ x3 then some (.inl (x2, x3, x4 + (iI 1), σ12)) else some (.inl (x4, v11, x4 + (iI 1), σ12))))))))
theorem sb_X_kind_22 {x : Cx} {g : Gv} {ρ : Option Value × Sg} (hc : Zc x g c_X_kind R_X 6 (some .int) 5) (x1 : Int32) (x2 : Int32) (x3 : Int32) (x4 : Int32) (σ : Sg) (r : (Int32 × Int32 × Int32 × Sg) ⊕ (Int32 × Sg)) (hf : b_X_kind_22 x1 x2 x3 x4 σ = some r) (hi : ∀ a', r = .inl a' → Z x g 6 ρ 22 [(0, .ref (gAd g (0, 0, 0))), (1, .int x1), (2, .int a'.1), (3, .int a'.2.1), (4, .int a'.2.2.1)] [] a'.2.2.2) (he0 : ∀ b, r = .inr b → Z x g 6 ρ 83 [(2, .int b.1)] [] b.2) : Z x g 6 ρ 22 [(0, .ref (gAd g (0, 0, 0))), (1, .int x1), (2, .int x2), (3, .int x3), (4, .int x4)] [] σ := by
  unfold b_X_kind_22 at hf
  refine z_iload hc d_X_kind_22 4 rfl ?_
  refine z_bipush (v := (iI 6)) hc d_X_kind_24 (by decide) ?_
  refine z_icmp_ge (tgt := 83) hc d_X_kind_26 (by decide) (fun hq => ?_) (fun hq => ?_)
  · have hf := ifp hq hf
    refine z_sub [2] (L' := [(2, .int x2)]) rfl ?_
    exact he0 (x2, σ) (Option.some.inj hf).symm
  · have hf := ifn hq hf
    refine z_aload_n hc d_X_kind_29 0 rfl ?_
    refine gf_X_63 hc d_X_kind_30  ?_
    refine z_aload_n hc d_X_kind_33 0 rfl ?_
    refine gf_X_50 hc d_X_kind_34  ?_
    refine gf_X_135 hc d_X_kind_37 (by decide) ?_
    refine z_iload_n hc d_X_kind_40 1 rfl ?_
    obtain ⟨j4, hj5, hf⟩ := bd hf
    refine ald_rugs hc d_X_kind_41 (by decide) hj5 ?_
    obtain ⟨v6, σ7, h8, hf⟩ := bd2 hf
    refine cz_X_212 hc d_X_kind_42 (by decide) okR_probe (okR_of (by decide) (rd_lt hj5)) h8 (Nat.le_of_ble_eq_true rfl) ?_
    refine z_aload_n hc d_X_kind_45 0 rfl ?_
    refine gf_X_63 hc d_X_kind_46  ?_
    refine z_aload_n hc d_X_kind_49 0 rfl ?_
    refine gf_X_41 hc d_X_kind_50  ?_
    refine z_iload hc d_X_kind_53 4 rfl ?_
    obtain ⟨j9, hj10, hf⟩ := bd hf
    refine ald_kinds hc d_X_kind_55  hj10 ?_
    refine pf_X_139 hc d_X_kind_56 okR_probe ?_
    refine z_aload_n hc d_X_kind_59 0 rfl ?_
    obtain ⟨v11, σ12, h13, hf⟩ := bd2 hf
    refine cz_X_222 hc d_X_kind_60 (by decide)  h13 (Nat.le_of_ble_eq_true rfl) ?_
    refine z_istore (L' := [(5, .int v11), (0, .ref (gAd g (0, 0, 0))), (1, .int x1), (2, .int x2), (3, .int x3), (4, .int x4)]) hc d_X_kind_63 (by decide) rfl ?_
    refine z_iload hc d_X_kind_65 0 rfl ?_
    refine z_iload_n hc d_X_kind_67 4 rfl ?_
    refine z_icmp_le (tgt := 77) hc d_X_kind_68 (by decide) (fun hq => ?_) (fun hq => ?_)
    · have hf := ifp hq hf
      refine z_iinc (v := x4 + (iI 1)) (L' := [(4, .int (x4 + (iI 1))), (5, .int v11), (0, .ref (gAd g (0, 0, 0))), (1, .int x1), (2, .int x2), (3, .int x3)]) hc d_X_kind_77 5 rfl rfl (by decide) rfl ?_
      refine z_goto (tgt := 22) hc d_X_kind_80 (by decide) ?_
      refine z_sub [2, 3, 4, 5, 0] (L' := [(0, .ref (gAd g (0, 0, 0))), (1, .int x1), (2, .int x2), (3, .int x3), (4, .int (x4 + (iI 1)))]) rfl ?_
      exact hi (x2, x3, x4 + (iI 1), σ12) (Option.some.inj hf).symm
    · have hf := ifn hq hf
      refine z_iload hc d_X_kind_71 0 rfl ?_
      refine z_istore_n (L' := [(3, .int v11), (5, .int v11), (0, .ref (gAd g (0, 0, 0))), (1, .int x1), (2, .int x2), (4, .int x4)]) hc d_X_kind_73 (by decide) rfl ?_
      refine z_iload hc d_X_kind_74 5 rfl ?_
      refine z_istore_n (L' := [(2, .int x4), (3, .int v11), (5, .int v11), (0, .ref (gAd g (0, 0, 0))), (1, .int x1), (4, .int x4)]) hc d_X_kind_76 (by decide) rfl ?_
      refine z_iinc (v := x4 + (iI 1)) (L' := [(4, .int (x4 + (iI 1))), (2, .int x4), (3, .int v11), (5, .int v11), (0, .ref (gAd g (0, 0, 0))), (1, .int x1)]) hc d_X_kind_77 5 rfl rfl (by decide) rfl ?_
      refine z_goto (tgt := 22) hc d_X_kind_80 (by decide) ?_
      refine z_sub [4, 5, 1, 2, 0] (L' := [(0, .ref (gAd g (0, 0, 0))), (1, .int x1), (2, .int x4), (3, .int v11), (4, .int (x4 + (iI 1)))]) rfl ?_
      exact hi (x4, v11, x4 + (iI 1), σ12) (Option.some.inj hf).symm
def f_X_kind (x1 : Int32) (σ : Sg) : Option (Int32 × Sg) :=
  b2 (f_X_isRug x1 σ) (fun v1 σ2 => (if v1 = (iI 0) then b2 (f_X_found (iI (-1000000001)) σ2) (fun v19 σ20 => some (v19, σ20)) else Option.bind (lp (fun a => b_X_kind_22 x1 a.1 a.2.1 a.2.2.1 a.2.2.2) FU ((iI 0), (iI (-1)), (iI 0), σ2)) (fun b17 => some (b17.1, b17.2))))
theorem ok_X_kind (g : Gv) (x1 : Int32) (σ : Sg) (r : Int32 × Sg) (hf : f_X_kind x1 σ = some r) : Ok g y_X_kind c_X_kind 6 (some .int) 5 [.ref (gAd g (0, 0, 0)), .int x1] σ (some (.int r.1), r.2) := by
  unfold f_X_kind at hf
  refine Ok.of [(0, .ref (gAd g (0, 0, 0))), (1, .int x1)] (by decide) (Nat.le_of_ble_eq_true rfl) rfl ?_
  intro x hc
  have hc : Zc x g c_X_kind R_X 6 (some .int) 5 := hc
  obtain ⟨ρ, hρ⟩ : ∃ ρ : Option Value × Sg, ρ = (some (.int r.1), r.2) := ⟨_, rfl⟩
  rw [← hρ]
  refine z_aload_n hc d_X_kind_0 0 rfl ?_
  refine z_iload_n hc d_X_kind_1 1 rfl ?_
  obtain ⟨v1, σ2, h3, hf⟩ := bd2 hf
  refine cz_X_131 hc d_X_kind_2 (by decide)  h3 (Nat.le_of_ble_eq_true rfl) ?_
  refine z_if_ne (tgt := 15) hc d_X_kind_5 (by decide) (fun hq => ?_) (fun hq => ?_)
  · have hf := ifn hq hf
    refine z_iconst (v := (iI 0)) hc d_X_kind_15 (by decide) ?_
    refine z_istore_n (L' := [(2, .int (iI 0)), (0, .ref (gAd g (0, 0, 0))), (1, .int x1)]) hc d_X_kind_16 (by decide) rfl ?_
    refine z_iconst (v := (iI (-1))) hc d_X_kind_17 (by decide) ?_
    refine z_istore_n (L' := [(3, .int (iI (-1))), (2, .int (iI 0)), (0, .ref (gAd g (0, 0, 0))), (1, .int x1)]) hc d_X_kind_18 (by decide) rfl ?_
    refine z_iconst (v := (iI 0)) hc d_X_kind_19 (by decide) ?_
    refine z_istore (L' := [(4, .int (iI 0)), (3, .int (iI (-1))), (2, .int (iI 0)), (0, .ref (gAd g (0, 0, 0))), (1, .int x1)]) hc d_X_kind_20 (by decide) rfl ?_
    refine z_sub [3, 4, 2, 1, 0] (L' := [(0, .ref (gAd g (0, 0, 0))), (1, .int x1), (2, .int (iI 0)), (3, .int (iI (-1))), (4, .int (iI 0))]) rfl ?_
    obtain ⟨⟨y15, σ16⟩, hl18, hf⟩ := bd hf
    try dsimp only at hf
    refine lp_walk (α := (Int32 × Int32 × Int32 × Sg)) (β := (Int32 × Sg)) (body := (fun a : (Int32 × Int32 × Int32 × Sg) => b_X_kind_22 x1 a.1 a.2.1 a.2.2.1 a.2.2.2)) (In := (fun a : (Int32 × Int32 × Int32 × Sg) => Z x g 6 ρ 22 [(0, .ref (gAd g (0, 0, 0))), (1, .int x1), (2, .int a.1), (3, .int a.2.1), (4, .int a.2.2.1)] [] a.2.2.2)) (Out := (fun b => Z x g 6 ρ 83 [(2, .int b.1)] [] b.2)) (fun a r hb hi ho => sb_X_kind_22 hc x1  a.1 a.2.1 a.2.2.1 a.2.2.2 r hb hi (fun b e => ho _ e)) FU ((iI 0), (iI (-1)), (iI 0), σ2) _ hl18 ?_
    dsimp only
    refine z_iload_n hc d_X_kind_83 0 rfl ?_
    exact z_iret hc d_X_kind_84 (rI hf hρ)
  · have hf := ifp hq hf
    refine z_aload_n hc d_X_kind_8 0 rfl ?_
    refine z_ldc (v := (iI (-1000000001))) hc co_X_89 d_X_kind_9 ?_
    obtain ⟨v19, σ20, h21, hf⟩ := bd2 hf
    refine cz_X_90 hc d_X_kind_11 (by decide)  h21 (Nat.le_of_ble_eq_true rfl) ?_
    exact z_iret hc d_X_kind_14 (rI hf hρ)
def j_X_enough_18 (σ : Sg) : Option (Int32 × Sg) :=
  b2 (f_X_found (iI (-1000000001)) σ) (fun v4 σ5 => some (v4, σ5))
theorem sj_X_enough_18 {x : Cx} {g : Gv} {ρ : Option Value × Sg} (hc : Zc x g c_X_enough R_X 4 (some .int) 5) (σ : Sg) (r : Int32 × Sg) (hf : j_X_enough_18 σ = some r) (hρ : ρ = (some (.int r.1), r.2)) : Z x g 4 ρ 18 [(0, .ref (gAd g (0, 0, 0)))] [] σ := by
  unfold j_X_enough_18 at hf
  refine z_aload_n hc d_X_enough_18 0 rfl ?_
  refine z_ldc (v := (iI (-1000000001))) hc co_X_89 d_X_enough_19 ?_
  obtain ⟨v4, σ5, h6, hf⟩ := bd2 hf
  refine cz_X_90 hc d_X_enough_21 (by decide)  h6 (Nat.le_of_ble_eq_true rfl) ?_
  exact z_iret hc d_X_enough_24 (rI hf hρ)
def b_X_enough_27 (x1 : Int32) (x2 : Int32) (x3 : Int32) (σ : Sg) : Option ((Int32 × Sg) ⊕ ((Int32 × Sg) ⊕ (Sg))) :=
  (if (iI 99) < x3 then some (.inr (.inr σ)) else Option.bind (rd x1 8) (fun j10 => b2 (f_Rug_become 3 0 0 j10 σ) (fun v12 σ13 => b2 (f_X_passProbe x2 (upI σ13 2 3 0 3 x3)) (fun v15 σ16 => b2 (f_Rug_isOut 3 0 σ16) (fun v18 σ19 => (if v18 = (iI 0) then some (.inl (x3 + (iI 1), σ19)) else some (.inr (.inl (x3, σ19)))))))))
theorem sb_X_enough_27 {x : Cx} {g : Gv} {ρ : Option Value × Sg} (hc : Zc x g c_X_enough R_X 4 (some .int) 5) (x1 : Int32) (x2 : Int32) (x3 : Int32) (σ : Sg) (r : (Int32 × Sg) ⊕ ((Int32 × Sg) ⊕ (Sg))) (hf : b_X_enough_27 x1 x2 x3 σ = some r) (hi : ∀ a', r = .inl a' → Z x g 4 ρ 27 [(0, .ref (gAd g (0, 0, 0))), (1, .int x1), (2, .int x2), (3, .int a'.1)] [] a'.2) (he0 : ∀ b, r = .inr (.inl b) → Z x g 4 ρ 72 [(3, .int b.1)] [] b.2) (he1 : ∀ b, r = .inr (.inr b) → Z x g 4 ρ 80 [(0, .ref (gAd g (0, 0, 0)))] [] b) : Z x g 4 ρ 27 [(0, .ref (gAd g (0, 0, 0))), (1, .int x1), (2, .int x2), (3, .int x3)] [] σ := by
  unfold b_X_enough_27 at hf
  refine z_iload_n hc d_X_enough_27 3 rfl ?_
  refine z_bipush (v := (iI 99)) hc d_X_enough_28 (by decide) ?_
  refine z_icmp_gt (tgt := 80) hc d_X_enough_30 (by decide) (fun hq => ?_) (fun hq => ?_)
  · have hf := ifp hq hf
    refine z_sub [0] (L' := [(0, .ref (gAd g (0, 0, 0)))]) rfl ?_
    exact he1 σ (Option.some.inj hf).symm
  · have hf := ifn hq hf
    refine z_aload_n hc d_X_enough_33 0 rfl ?_
    refine gf_X_63 hc d_X_enough_34  ?_
    refine z_aload_n hc d_X_enough_37 0 rfl ?_
    refine gf_X_50 hc d_X_enough_38  ?_
    refine gf_X_135 hc d_X_enough_41 (by decide) ?_
    refine z_iload_n hc d_X_enough_44 1 rfl ?_
    obtain ⟨j10, hj11, hf⟩ := bd hf
    refine ald_rugs hc d_X_enough_45 (by decide) hj11 ?_
    obtain ⟨v12, σ13, h14, hf⟩ := bd2 hf
    refine cz_X_212 hc d_X_enough_46 (by decide) okR_probe (okR_of (by decide) (rd_lt hj11)) h14 (Nat.le_of_ble_eq_true rfl) ?_
    refine z_aload_n hc d_X_enough_49 0 rfl ?_
    refine gf_X_63 hc d_X_enough_50  ?_
    refine z_iload_n hc d_X_enough_53 3 rfl ?_
    refine pf_X_178 hc d_X_enough_54 okR_probe ?_
    refine z_aload_n hc d_X_enough_57 0 rfl ?_
    refine z_iload_n hc d_X_enough_58 2 rfl ?_
    obtain ⟨v15, σ16, h17, hf⟩ := bd2 hf
    refine cz_X_216 hc d_X_enough_59 (by decide)  h17 (Nat.le_of_ble_eq_true rfl) ?_
    refine z_aload_n hc d_X_enough_62 0 rfl ?_
    refine gf_X_63 hc d_X_enough_63  ?_
    obtain ⟨v18, σ19, h20, hf⟩ := bd2 hf
    refine cz_X_189 hc d_X_enough_66 (by decide) okR_probe h20 (Nat.le_of_ble_eq_true rfl) ?_
    refine z_if_eq (tgt := 74) hc d_X_enough_69 (by decide) (fun hq => ?_) (fun hq => ?_)
    · have hf := ifp hq hf
      refine z_iinc (v := x3 + (iI 1)) (L' := [(3, .int (x3 + (iI 1))), (0, .ref (gAd g (0, 0, 0))), (1, .int x1), (2, .int x2)]) hc d_X_enough_74 3 rfl rfl (by decide) rfl ?_
      refine z_goto (tgt := 27) hc d_X_enough_77 (by decide) ?_
      refine z_sub [1, 2, 3, 0] (L' := [(0, .ref (gAd g (0, 0, 0))), (1, .int x1), (2, .int x2), (3, .int (x3 + (iI 1)))]) rfl ?_
      exact hi (x3 + (iI 1), σ19) (Option.some.inj hf).symm
    · have hf := ifn hq hf
      refine z_sub [3] (L' := [(3, .int x3)]) rfl ?_
      exact he0 (x3, σ19) (Option.some.inj hf).symm
def f_X_enough (x1 : Int32) (x2 : Int32) (σ : Sg) : Option (Int32 × Sg) :=
  b2 (f_X_isRug x1 σ) (fun v1 σ2 => (if v1 = (iI 0) then j_X_enough_18   σ2 else b2 (f_X_within x2 (iI 1) (iI 60) σ2) (fun v7 σ8 => (if v7 = (iI 0) then j_X_enough_18   σ8 else Option.bind (lp (fun a => b_X_enough_27 x1 x2 a.1 a.2) FU ((iI 0), σ8)) (fun z => Sum.elim (fun b28 => some (b28.1, b28.2)) (fun b29 => b2 (f_X_found (iI (-1000000004)) b29) (fun v25 σ26 => some (v25, σ26))) z)))))
theorem ok_X_enough (g : Gv) (x1 : Int32) (x2 : Int32) (σ : Sg) (r : Int32 × Sg) (hf : f_X_enough x1 x2 σ = some r) : Ok g y_X_enough c_X_enough 4 (some .int) 5 [.ref (gAd g (0, 0, 0)), .int x1, .int x2] σ (some (.int r.1), r.2) := by
  unfold f_X_enough at hf
  refine Ok.of [(0, .ref (gAd g (0, 0, 0))), (1, .int x1), (2, .int x2)] (by decide) (Nat.le_of_ble_eq_true rfl) rfl ?_
  intro x hc
  have hc : Zc x g c_X_enough R_X 4 (some .int) 5 := hc
  obtain ⟨ρ, hρ⟩ : ∃ ρ : Option Value × Sg, ρ = (some (.int r.1), r.2) := ⟨_, rfl⟩
  rw [← hρ]
  refine z_aload_n hc d_X_enough_0 0 rfl ?_
  refine z_iload_n hc d_X_enough_1 1 rfl ?_
  obtain ⟨v1, σ2, h3, hf⟩ := bd2 hf
  refine cz_X_131 hc d_X_enough_2 (by decide)  h3 (Nat.le_of_ble_eq_true rfl) ?_
  refine z_if_eq (tgt := 18) hc d_X_enough_5 (by decide) (fun hq => ?_) (fun hq => ?_)
  · have hf := ifp hq hf
    refine z_sub [0] (L' := [(0, .ref (gAd g (0, 0, 0)))]) rfl ?_
    exact sj_X_enough_18 hc     σ2 _ hf hρ
  · have hf := ifn hq hf
    refine z_iload_n hc d_X_enough_8 2 rfl ?_
    refine z_iconst (v := (iI 1)) hc d_X_enough_9 (by decide) ?_
    refine z_bipush (v := (iI 60)) hc d_X_enough_10 (by decide) ?_
    obtain ⟨v7, σ8, h9, hf⟩ := bd2 hf
    refine cz_X_85 hc d_X_enough_12 (by decide)  h9 (Nat.le_of_ble_eq_true rfl) ?_
    refine z_if_ne (tgt := 25) hc d_X_enough_15 (by decide) (fun hq => ?_) (fun hq => ?_)
    · have hf := ifn hq hf
      refine z_iconst (v := (iI 0)) hc d_X_enough_25 (by decide) ?_
      refine z_istore_n (L' := [(3, .int (iI 0)), (0, .ref (gAd g (0, 0, 0))), (1, .int x1), (2, .int x2)]) hc d_X_enough_26 (by decide) rfl ?_
      refine z_sub [1, 2, 3, 0] (L' := [(0, .ref (gAd g (0, 0, 0))), (1, .int x1), (2, .int x2), (3, .int (iI 0))]) rfl ?_
      obtain ⟨q21, hl30, hf⟩ := bd hf
      refine lp_walk (α := (Int32 × Sg)) (β := ((Int32 × Sg) ⊕ (Sg))) (body := (fun a : (Int32 × Sg) => b_X_enough_27 x1 x2 a.1 a.2)) (In := (fun a : (Int32 × Sg) => Z x g 4 ρ 27 [(0, .ref (gAd g (0, 0, 0))), (1, .int x1), (2, .int x2), (3, .int a.1)] [] a.2)) (Out := (Sum.elim (fun b => Z x g 4 ρ 72 [(3, .int b.1)] [] b.2) (fun b => Z x g 4 ρ 80 [(0, .ref (gAd g (0, 0, 0)))] [] b))) (fun a r hb hi ho => sb_X_enough_27 hc x1 x2  a.1 a.2 r hb hi (fun b e => ho _ e) (fun b e => ho _ e)) FU ((iI 0), σ8) _ hl30 ?_
      rcases q21 with ⟨y22, σ23⟩ | q21
      · try dsimp only [Sum.elim_inl, Sum.elim_inr] at hf
        try dsimp only [Sum.elim_inl, Sum.elim_inr]
        refine z_iload_n hc d_X_enough_72 0 rfl ?_
        exact z_iret hc d_X_enough_73 (rI hf hρ)
      try dsimp only [Sum.elim_inl, Sum.elim_inr] at hf
      try dsimp only [Sum.elim_inl, Sum.elim_inr]
      · obtain ⟨σ24, rfl⟩ : ∃ z, z = q21 := ⟨_, rfl⟩
        try dsimp only [Sum.elim_inl, Sum.elim_inr] at hf
        try dsimp only [Sum.elim_inl, Sum.elim_inr]
        refine z_aload_n hc d_X_enough_80 0 rfl ?_
        refine z_ldc (v := (iI (-1000000004))) hc co_X_225 d_X_enough_81 ?_
        obtain ⟨v25, σ26, h27, hf⟩ := bd2 hf
        refine cz_X_90 hc d_X_enough_83 (by decide)  h27 (Nat.le_of_ble_eq_true rfl) ?_
        exact z_iret hc d_X_enough_86 (rI hf hρ)
    · have hf := ifp hq hf
      refine z_sub [0] (L' := [(0, .ref (gAd g (0, 0, 0)))]) rfl ?_
      exact sj_X_enough_18 hc     σ8 _ hf hρ
def b_X_weather_24 (x1 : Int32) (x2 : Int32) (x3 : Int32) (x4 : Int32) (σ : Sg) : Option ((Int32 × Int32 × Int32 × Sg) ⊕ (Int32 × Sg)) :=
  (if (iI 7) ≤ x4 then some (.inr (x2, σ)) else b2 (f_World_become 2 0 σ) (fun v4 σ5 => Option.bind (rd x4 7) (fun j7 => Option.bind (rd x4 7) (fun j9 => b2 (f_World_passDays 2 x1 (upI σ5 12 2 0 j9 ((iI 1) - (σ5.1 12 2 0 j7)))) (fun v11 σ12 => b2 (f_World_allPiles 2 σ12) (fun v14 σ15 => (if v14 ≤ x3 then some (.inl (x2, x3, x4 + (iI 1), σ15)) else some (.inl (x4, v14, x4 + (iI 1), σ15)))))))))
theorem sb_X_weather_24 {x : Cx} {g : Gv} {ρ : Option Value × Sg} (hc : Zc x g c_X_weather R_X 6 (some .int) 5) (x1 : Int32) (x2 : Int32) (x3 : Int32) (x4 : Int32) (σ : Sg) (r : (Int32 × Int32 × Int32 × Sg) ⊕ (Int32 × Sg)) (hf : b_X_weather_24 x1 x2 x3 x4 σ = some r) (hi : ∀ a', r = .inl a' → Z x g 6 ρ 24 [(0, .ref (gAd g (0, 0, 0))), (1, .int x1), (2, .int a'.1), (3, .int a'.2.1), (4, .int a'.2.2.1)] [] a'.2.2.2) (he0 : ∀ b, r = .inr b → Z x g 6 ρ 99 [(2, .int b.1)] [] b.2) : Z x g 6 ρ 24 [(0, .ref (gAd g (0, 0, 0))), (1, .int x1), (2, .int x2), (3, .int x3), (4, .int x4)] [] σ := by
  unfold b_X_weather_24 at hf
  refine z_iload hc d_X_weather_24 4 rfl ?_
  refine z_bipush (v := (iI 7)) hc d_X_weather_26 (by decide) ?_
  refine z_icmp_ge (tgt := 99) hc d_X_weather_28 (by decide) (fun hq => ?_) (fun hq => ?_)
  · have hf := ifp hq hf
    refine z_sub [2] (L' := [(2, .int x2)]) rfl ?_
    exact he0 (x2, σ) (Option.some.inj hf).symm
  · have hf := ifn hq hf
    refine z_aload_n hc d_X_weather_31 0 rfl ?_
    refine gf_X_57 hc d_X_weather_32  ?_
    refine z_aload_n hc d_X_weather_35 0 rfl ?_
    refine gf_X_50 hc d_X_weather_36  ?_
    obtain ⟨v4, σ5, h6, hf⟩ := bd2 hf
    refine cz_X_219 hc d_X_weather_39 (by decide) (by decide) (by decide) h6 (Nat.le_of_ble_eq_true rfl) ?_
    refine z_aload_n hc d_X_weather_42 0 rfl ?_
    refine gf_X_57 hc d_X_weather_43  ?_
    refine gf_X_94 hc d_X_weather_46 (by decide) ?_
    refine z_iload hc d_X_weather_49 4 rfl ?_
    refine z_iconst (v := (iI 1)) hc d_X_weather_51 (by decide) ?_
    refine z_aload_n hc d_X_weather_52 0 rfl ?_
    refine gf_X_57 hc d_X_weather_53  ?_
    refine gf_X_94 hc d_X_weather_56 (by decide) ?_
    refine z_iload hc d_X_weather_59 4 rfl ?_
    obtain ⟨j7, hj8, hf⟩ := bd hf
    refine ald_rain hc d_X_weather_61 (by decide) hj8 ?_
    refine z_isub hc d_X_weather_62 ?_
    obtain ⟨j9, hj10, hf⟩ := bd hf
    refine ast_rain hc d_X_weather_63 (by decide) hj10 ?_
    refine z_aload_n hc d_X_weather_64 0 rfl ?_
    refine gf_X_57 hc d_X_weather_65  ?_
    refine z_iload_n hc d_X_weather_68 1 rfl ?_
    obtain ⟨v11, σ12, h13, hf⟩ := bd2 hf
    refine cz_X_208 hc d_X_weather_69 (by decide) (by decide) h13 (Nat.le_of_ble_eq_true rfl) ?_
    refine z_aload_n hc d_X_weather_72 0 rfl ?_
    refine gf_X_57 hc d_X_weather_73  ?_
    obtain ⟨v14, σ15, h16, hf⟩ := bd2 hf
    refine cz_X_123 hc d_X_weather_76 (by decide) (by decide) h16 (Nat.le_of_ble_eq_true rfl) ?_
    refine z_istore (L' := [(5, .int v14), (0, .ref (gAd g (0, 0, 0))), (1, .int x1), (2, .int x2), (3, .int x3), (4, .int x4)]) hc d_X_weather_79 (by decide) rfl ?_
    refine z_iload hc d_X_weather_81 0 rfl ?_
    refine z_iload_n hc d_X_weather_83 4 rfl ?_
    refine z_icmp_le (tgt := 93) hc d_X_weather_84 (by decide) (fun hq => ?_) (fun hq => ?_)
    · have hf := ifp hq hf
      refine z_iinc (v := x4 + (iI 1)) (L' := [(4, .int (x4 + (iI 1))), (5, .int v14), (0, .ref (gAd g (0, 0, 0))), (1, .int x1), (2, .int x2), (3, .int x3)]) hc d_X_weather_93 5 rfl rfl (by decide) rfl ?_
      refine z_goto (tgt := 24) hc d_X_weather_96 (by decide) ?_
      refine z_sub [2, 3, 4, 5, 0] (L' := [(0, .ref (gAd g (0, 0, 0))), (1, .int x1), (2, .int x2), (3, .int x3), (4, .int (x4 + (iI 1)))]) rfl ?_
      exact hi (x2, x3, x4 + (iI 1), σ15) (Option.some.inj hf).symm
    · have hf := ifn hq hf
      refine z_iload hc d_X_weather_87 0 rfl ?_
      refine z_istore_n (L' := [(3, .int v14), (5, .int v14), (0, .ref (gAd g (0, 0, 0))), (1, .int x1), (2, .int x2), (4, .int x4)]) hc d_X_weather_89 (by decide) rfl ?_
      refine z_iload hc d_X_weather_90 5 rfl ?_
      refine z_istore_n (L' := [(2, .int x4), (3, .int v14), (5, .int v14), (0, .ref (gAd g (0, 0, 0))), (1, .int x1), (4, .int x4)]) hc d_X_weather_92 (by decide) rfl ?_
      refine z_iinc (v := x4 + (iI 1)) (L' := [(4, .int (x4 + (iI 1))), (2, .int x4), (3, .int v14), (5, .int v14), (0, .ref (gAd g (0, 0, 0))), (1, .int x1)]) hc d_X_weather_93 5 rfl rfl (by decide) rfl ?_
      refine z_goto (tgt := 24) hc d_X_weather_96 (by decide) ?_
      refine z_sub [4, 5, 1, 2, 0] (L' := [(0, .ref (gAd g (0, 0, 0))), (1, .int x1), (2, .int x4), (3, .int v14), (4, .int (x4 + (iI 1)))]) rfl ?_
      exact hi (x4, v14, x4 + (iI 1), σ15) (Option.some.inj hf).symm
def f_X_weather (x1 : Int32) (σ : Sg) : Option (Int32 × Sg) :=
  b2 (f_X_within x1 (iI 1) (iI 60) σ) (fun v1 σ2 => (if v1 = (iI 0) then b2 (f_X_found (iI (-1000000001)) σ2) (fun v22 σ23 => some (v22, σ23)) else Option.bind (lp (fun a => b_X_weather_24 x1 a.1 a.2.1 a.2.2.1 a.2.2.2) FU ((iI 0), (iI (-1)), (iI 0), σ2)) (fun b20 => some (b20.1, b20.2))))
theorem ok_X_weather (g : Gv) (x1 : Int32) (σ : Sg) (r : Int32 × Sg) (hf : f_X_weather x1 σ = some r) : Ok g y_X_weather c_X_weather 6 (some .int) 5 [.ref (gAd g (0, 0, 0)), .int x1] σ (some (.int r.1), r.2) := by
  unfold f_X_weather at hf
  refine Ok.of [(0, .ref (gAd g (0, 0, 0))), (1, .int x1)] (by decide) (Nat.le_of_ble_eq_true rfl) rfl ?_
  intro x hc
  have hc : Zc x g c_X_weather R_X 6 (some .int) 5 := hc
  obtain ⟨ρ, hρ⟩ : ∃ ρ : Option Value × Sg, ρ = (some (.int r.1), r.2) := ⟨_, rfl⟩
  rw [← hρ]
  refine z_iload_n hc d_X_weather_0 1 rfl ?_
  refine z_iconst (v := (iI 1)) hc d_X_weather_1 (by decide) ?_
  refine z_bipush (v := (iI 60)) hc d_X_weather_2 (by decide) ?_
  obtain ⟨v1, σ2, h3, hf⟩ := bd2 hf
  refine cz_X_85 hc d_X_weather_4 (by decide)  h3 (Nat.le_of_ble_eq_true rfl) ?_
  refine z_if_ne (tgt := 17) hc d_X_weather_7 (by decide) (fun hq => ?_) (fun hq => ?_)
  · have hf := ifn hq hf
    refine z_iconst (v := (iI 0)) hc d_X_weather_17 (by decide) ?_
    refine z_istore_n (L' := [(2, .int (iI 0)), (0, .ref (gAd g (0, 0, 0))), (1, .int x1)]) hc d_X_weather_18 (by decide) rfl ?_
    refine z_iconst (v := (iI (-1))) hc d_X_weather_19 (by decide) ?_
    refine z_istore_n (L' := [(3, .int (iI (-1))), (2, .int (iI 0)), (0, .ref (gAd g (0, 0, 0))), (1, .int x1)]) hc d_X_weather_20 (by decide) rfl ?_
    refine z_iconst (v := (iI 0)) hc d_X_weather_21 (by decide) ?_
    refine z_istore (L' := [(4, .int (iI 0)), (3, .int (iI (-1))), (2, .int (iI 0)), (0, .ref (gAd g (0, 0, 0))), (1, .int x1)]) hc d_X_weather_22 (by decide) rfl ?_
    refine z_sub [3, 4, 2, 1, 0] (L' := [(0, .ref (gAd g (0, 0, 0))), (1, .int x1), (2, .int (iI 0)), (3, .int (iI (-1))), (4, .int (iI 0))]) rfl ?_
    obtain ⟨⟨y18, σ19⟩, hl21, hf⟩ := bd hf
    try dsimp only at hf
    refine lp_walk (α := (Int32 × Int32 × Int32 × Sg)) (β := (Int32 × Sg)) (body := (fun a : (Int32 × Int32 × Int32 × Sg) => b_X_weather_24 x1 a.1 a.2.1 a.2.2.1 a.2.2.2)) (In := (fun a : (Int32 × Int32 × Int32 × Sg) => Z x g 6 ρ 24 [(0, .ref (gAd g (0, 0, 0))), (1, .int x1), (2, .int a.1), (3, .int a.2.1), (4, .int a.2.2.1)] [] a.2.2.2)) (Out := (fun b => Z x g 6 ρ 99 [(2, .int b.1)] [] b.2)) (fun a r hb hi ho => sb_X_weather_24 hc x1  a.1 a.2.1 a.2.2.1 a.2.2.2 r hb hi (fun b e => ho _ e)) FU ((iI 0), (iI (-1)), (iI 0), σ2) _ hl21 ?_
    dsimp only
    refine z_iload_n hc d_X_weather_99 0 rfl ?_
    exact z_iret hc d_X_weather_100 (rI hf hρ)
  · have hf := ifp hq hf
    refine z_aload_n hc d_X_weather_10 0 rfl ?_
    refine z_ldc (v := (iI (-1000000001))) hc co_X_89 d_X_weather_11 ?_
    obtain ⟨v22, σ23, h24, hf⟩ := bd2 hf
    refine cz_X_90 hc d_X_weather_13 (by decide)  h24 (Nat.le_of_ble_eq_true rfl) ?_
    exact z_iret hc d_X_weather_16 (rI hf hρ)
theorem vl_X_241 : SL R_X 241 y_Integer_bitCount_0f7a4 c_Integer_bitCount_0f7a4 1 (some .int) 1 := ⟨tb3 156 (by decide +kernel) (by decide +kernel), tb3 157 (by decide +kernel) (by decide +kernel), tb1 16 (by decide +kernel) (by decide +kernel), k_Integer_bitCount_0f7a4, by decide, by decide, by decide +kernel, by decide⟩
theorem cz_X_241 {x : Cx} {g : Gv} {cc : ByteArray} {nL d pc : Nat} {ret : Option FieldType} {ρ : Option Value × Sg} {L : List (Nat × Value)} {st : List Value} {σ : Sg} (hc : Zc x g cc R_X nL ret d) (hd : decode cc pc = .ok (.invokestatic 241, 3)) (hdd : 1 ≤ d) {x0 : Int32} {v : Int32} {σ1 : Sg} (hf : f_Integer_bitCount_0f7a4 x0 σ = some (v, σ1)) (hst : (st.map (fun v => v.category)).sum ≤ 8) (k : Z x g nL ρ (pc + 3) L (.int v :: st) σ1) : Z x g nL ρ pc L (.int x0 :: st) σ := z_callS (As := [.int x0]) hc hd vl_X_241 hdd (ok_Integer_bitCount_0f7a4 g x0 σ (v, σ1) hf) rfl rfl hst rfl k
def j_X_fewest_19 (σ : Sg) : Option (Int32 × Sg) :=
  b2 (f_X_found (iI (-1000000001)) σ) (fun v4 σ5 => some (v4, σ5))
theorem sj_X_fewest_19 {x : Cx} {g : Gv} {ρ : Option Value × Sg} (hc : Zc x g c_X_fewest R_X 8 (some .int) 5) (σ : Sg) (r : Int32 × Sg) (hf : j_X_fewest_19 σ = some r) (hρ : ρ = (some (.int r.1), r.2)) : Z x g 8 ρ 19 [(0, .ref (gAd g (0, 0, 0)))] [] σ := by
  unfold j_X_fewest_19 at hf
  refine z_aload_n hc d_X_fewest_19 0 rfl ?_
  refine z_ldc (v := (iI (-1000000001))) hc co_X_89 d_X_fewest_20 ?_
  obtain ⟨v4, σ5, h6, hf⟩ := bd2 hf
  refine cz_X_90 hc d_X_fewest_22 (by decide)  h6 (Nat.le_of_ble_eq_true rfl) ?_
  exact z_iret hc d_X_fewest_25 (rI hf hρ)
def j_X_fewest_73 (x1 : Int32) (x2 : Int32) (x3 : Int32) (x4 : Int32) (x5 : Int32) (x6 : Int32) (xs0 : Int32) (σ : Sg) : Option ((Int32 × Int32 × Int32 × Sg) ⊕ (Int32 × Sg)) :=
  (if xs0 = (iI 0) then some (.inl (x4, x5, x6 + (iI 1), σ)) else b2 (f_Integer_bitCount_0f7a4 x6 σ) (fun v16 σ17 => (if x5 ≤ v16 then some (.inl (x4, x5, x6 + (iI 1), σ17)) else b2 (f_World_yardsWithout 0 x1 x6 σ17) (fun v19 σ20 => (if v19 < x2 then some (.inl (x4, x5, x6 + (iI 1), σ20)) else b2 (f_Integer_bitCount_0f7a4 x6 σ20) (fun v22 σ23 => some (.inl (x6, v22, x6 + (iI 1), σ23))))))))
theorem sj_X_fewest_73 {x : Cx} {g : Gv} {ρ : Option Value × Sg} (hc : Zc x g c_X_fewest R_X 8 (some .int) 5) (x1 : Int32) (x2 : Int32) (x3 : Int32) (x4 : Int32) (x5 : Int32) (x6 : Int32) (xs0 : Int32) (σ : Sg) (r : (Int32 × Int32 × Int32 × Sg) ⊕ (Int32 × Sg)) (hf : j_X_fewest_73 x1 x2 x3 x4 x5 x6 xs0 σ = some r) (hi : ∀ a', r = .inl a' → Z x g 8 ρ 51 [(0, .ref (gAd g (0, 0, 0))), (1, .int x1), (2, .int x2), (3, .int x3), (4, .int a'.1), (5, .int a'.2.1), (6, .int a'.2.2.1)] [] a'.2.2.2) (he0 : ∀ b, r = .inr b → Z x g 8 ρ 121 [(0, .ref (gAd g (0, 0, 0))), (4, .int b.1)] [] b.2) : Z x g 8 ρ 73 [(0, .ref (gAd g (0, 0, 0))), (1, .int x1), (2, .int x2), (3, .int x3), (4, .int x4), (5, .int x5), (6, .int x6)] [.int xs0] σ := by
  unfold j_X_fewest_73 at hf
  refine z_istore (L' := [(7, .int xs0), (0, .ref (gAd g (0, 0, 0))), (1, .int x1), (2, .int x2), (3, .int x3), (4, .int x4), (5, .int x5), (6, .int x6)]) hc d_X_fewest_73 (by decide) rfl ?_
  refine z_iload hc d_X_fewest_75 0 rfl ?_
  refine z_if_eq (tgt := 115) hc d_X_fewest_77 (by decide) (fun hq => ?_) (fun hq => ?_)
  · have hf := ifp hq hf
    refine z_iinc (v := x6 + (iI 1)) (L' := [(6, .int (x6 + (iI 1))), (7, .int xs0), (0, .ref (gAd g (0, 0, 0))), (1, .int x1), (2, .int x2), (3, .int x3), (4, .int x4), (5, .int x5)]) hc d_X_fewest_115 7 rfl rfl (by decide) rfl ?_
    refine z_goto (tgt := 51) hc d_X_fewest_118 (by decide) ?_
    refine z_sub [2, 3, 4, 5, 6, 7, 0] (L' := [(0, .ref (gAd g (0, 0, 0))), (1, .int x1), (2, .int x2), (3, .int x3), (4, .int x4), (5, .int x5), (6, .int (x6 + (iI 1)))]) rfl ?_
    exact hi (x4, x5, x6 + (iI 1), σ) (Option.some.inj hf).symm
  · have hf := ifn hq hf
    refine z_iload hc d_X_fewest_80 7 rfl ?_
    obtain ⟨v16, σ17, h18, hf⟩ := bd2 hf
    refine cz_X_241 hc d_X_fewest_82 (by decide)  h18 (Nat.le_of_ble_eq_true rfl) ?_
    refine z_iload hc d_X_fewest_85 6 rfl ?_
    refine z_icmp_ge (tgt := 115) hc d_X_fewest_87 (by decide) (fun hq => ?_) (fun hq => ?_)
    · have hf := ifp hq hf
      refine z_iinc (v := x6 + (iI 1)) (L' := [(6, .int (x6 + (iI 1))), (7, .int xs0), (0, .ref (gAd g (0, 0, 0))), (1, .int x1), (2, .int x2), (3, .int x3), (4, .int x4), (5, .int x5)]) hc d_X_fewest_115 7 rfl rfl (by decide) rfl ?_
      refine z_goto (tgt := 51) hc d_X_fewest_118 (by decide) ?_
      refine z_sub [2, 3, 4, 5, 6, 7, 0] (L' := [(0, .ref (gAd g (0, 0, 0))), (1, .int x1), (2, .int x2), (3, .int x3), (4, .int x4), (5, .int x5), (6, .int (x6 + (iI 1)))]) rfl ?_
      exact hi (x4, x5, x6 + (iI 1), σ17) (Option.some.inj hf).symm
    · have hf := ifn hq hf
      refine z_aload_n hc d_X_fewest_90 1 rfl ?_
      refine gf_X_50 hc d_X_fewest_91  ?_
      refine z_iload_n hc d_X_fewest_94 2 rfl ?_
      refine z_iload hc d_X_fewest_95 7 rfl ?_
      obtain ⟨v19, σ20, h21, hf⟩ := bd2 hf
      refine cz_X_238 hc d_X_fewest_97 (by decide) (by decide) h21 (Nat.le_of_ble_eq_true rfl) ?_
      refine z_iload_n hc d_X_fewest_100 3 rfl ?_
      refine z_icmp_lt (tgt := 115) hc d_X_fewest_101 (by decide) (fun hq => ?_) (fun hq => ?_)
      · have hf := ifp hq hf
        refine z_iinc (v := x6 + (iI 1)) (L' := [(6, .int (x6 + (iI 1))), (7, .int xs0), (0, .ref (gAd g (0, 0, 0))), (1, .int x1), (2, .int x2), (3, .int x3), (4, .int x4), (5, .int x5)]) hc d_X_fewest_115 7 rfl rfl (by decide) rfl ?_
        refine z_goto (tgt := 51) hc d_X_fewest_118 (by decide) ?_
        refine z_sub [2, 3, 4, 5, 6, 7, 0] (L' := [(0, .ref (gAd g (0, 0, 0))), (1, .int x1), (2, .int x2), (3, .int x3), (4, .int x4), (5, .int x5), (6, .int (x6 + (iI 1)))]) rfl ?_
        exact hi (x4, x5, x6 + (iI 1), σ20) (Option.some.inj hf).symm
      · have hf := ifn hq hf
        refine z_iload hc d_X_fewest_104 7 rfl ?_
        refine z_istore (L' := [(4, .int x6), (7, .int xs0), (0, .ref (gAd g (0, 0, 0))), (1, .int x1), (2, .int x2), (3, .int x3), (5, .int x5), (6, .int x6)]) hc d_X_fewest_106 (by decide) rfl ?_
        refine z_iload hc d_X_fewest_108 7 rfl ?_
        obtain ⟨v22, σ23, h24, hf⟩ := bd2 hf
        refine cz_X_241 hc d_X_fewest_110 (by decide)  h24 (Nat.le_of_ble_eq_true rfl) ?_
        refine z_istore (L' := [(5, .int v22), (4, .int x6), (7, .int xs0), (0, .ref (gAd g (0, 0, 0))), (1, .int x1), (2, .int x2), (3, .int x3), (6, .int x6)]) hc d_X_fewest_113 (by decide) rfl ?_
        refine z_iinc (v := x6 + (iI 1)) (L' := [(6, .int (x6 + (iI 1))), (5, .int v22), (4, .int x6), (7, .int xs0), (0, .ref (gAd g (0, 0, 0))), (1, .int x1), (2, .int x2), (3, .int x3)]) hc d_X_fewest_115 7 rfl rfl (by decide) rfl ?_
        refine z_goto (tgt := 51) hc d_X_fewest_118 (by decide) ?_
        refine z_sub [4, 5, 6, 7, 2, 1, 0] (L' := [(0, .ref (gAd g (0, 0, 0))), (1, .int x1), (2, .int x2), (3, .int x3), (4, .int x6), (5, .int v22), (6, .int (x6 + (iI 1)))]) rfl ?_
        exact hi (x6, v22, x6 + (iI 1), σ23) (Option.some.inj hf).symm
def b_X_fewest_51 (x1 : Int32) (x2 : Int32) (x3 : Int32) (x4 : Int32) (x5 : Int32) (x6 : Int32) (σ : Sg) : Option ((Int32 × Int32 × Int32 × Sg) ⊕ (Int32 × Sg)) :=
  (if (iI 256) ≤ x6 then some (.inr (x4, σ)) else (if (x6 &&& (x3 ^^^ (iI (-1)))) = (iI 0) then j_X_fewest_73 x1 x2 x3 x4 x5 x6 (iI 1) σ else j_X_fewest_73 x1 x2 x3 x4 x5 x6 (iI 0) σ))
theorem sb_X_fewest_51 {x : Cx} {g : Gv} {ρ : Option Value × Sg} (hc : Zc x g c_X_fewest R_X 8 (some .int) 5) (x1 : Int32) (x2 : Int32) (x3 : Int32) (x4 : Int32) (x5 : Int32) (x6 : Int32) (σ : Sg) (r : (Int32 × Int32 × Int32 × Sg) ⊕ (Int32 × Sg)) (hf : b_X_fewest_51 x1 x2 x3 x4 x5 x6 σ = some r) (hi : ∀ a', r = .inl a' → Z x g 8 ρ 51 [(0, .ref (gAd g (0, 0, 0))), (1, .int x1), (2, .int x2), (3, .int x3), (4, .int a'.1), (5, .int a'.2.1), (6, .int a'.2.2.1)] [] a'.2.2.2) (he0 : ∀ b, r = .inr b → Z x g 8 ρ 121 [(0, .ref (gAd g (0, 0, 0))), (4, .int b.1)] [] b.2) : Z x g 8 ρ 51 [(0, .ref (gAd g (0, 0, 0))), (1, .int x1), (2, .int x2), (3, .int x3), (4, .int x4), (5, .int x5), (6, .int x6)] [] σ := by
  unfold b_X_fewest_51 at hf
  refine z_iload hc d_X_fewest_51 6 rfl ?_
  refine z_sipush (v := (iI 256)) hc d_X_fewest_53 (by decide) ?_
  refine z_icmp_ge (tgt := 121) hc d_X_fewest_56 (by decide) (fun hq => ?_) (fun hq => ?_)
  · have hf := ifp hq hf
    refine z_sub [0, 4] (L' := [(0, .ref (gAd g (0, 0, 0))), (4, .int x4)]) rfl ?_
    exact he0 (x4, σ) (Option.some.inj hf).symm
  · have hf := ifn hq hf
    refine z_iload hc d_X_fewest_59 6 rfl ?_
    refine z_iload_n hc d_X_fewest_61 3 rfl ?_
    refine z_iconst (v := (iI (-1))) hc d_X_fewest_62 (by decide) ?_
    refine z_ixor hc d_X_fewest_63 ?_
    refine z_iand hc d_X_fewest_64 ?_
    refine z_if_ne (tgt := 72) hc d_X_fewest_65 (by decide) (fun hq => ?_) (fun hq => ?_)
    · have hf := ifn hq hf
      refine z_iconst (v := (iI 0)) hc d_X_fewest_72 (by decide) ?_
      refine z_sub [0, 1, 2, 3, 4, 5, 6] (L' := [(0, .ref (gAd g (0, 0, 0))), (1, .int x1), (2, .int x2), (3, .int x3), (4, .int x4), (5, .int x5), (6, .int x6)]) rfl ?_
      exact sj_X_fewest_73 hc x1 x2 x3 x4 x5 x6 (iI 0)   σ _ hf hi he0
    · have hf := ifp hq hf
      refine z_iconst (v := (iI 1)) hc d_X_fewest_68 (by decide) ?_
      refine z_goto (tgt := 73) hc d_X_fewest_69 (by decide) ?_
      refine z_sub [0, 1, 2, 3, 4, 5, 6] (L' := [(0, .ref (gAd g (0, 0, 0))), (1, .int x1), (2, .int x2), (3, .int x3), (4, .int x4), (5, .int x5), (6, .int x6)]) rfl ?_
      exact sj_X_fewest_73 hc x1 x2 x3 x4 x5 x6 (iI 1)   σ _ hf hi he0
def f_X_fewest (x1 : Int32) (x2 : Int32) (σ : Sg) : Option (Int32 × Sg) :=
  b2 (f_X_within x1 (iI 0) (iI 3) σ) (fun v1 σ2 => (if v1 = (iI 0) then j_X_fewest_19   σ2 else b2 (f_X_within x2 (iI 0) (iI 40) σ2) (fun v7 σ8 => (if v7 = (iI 0) then j_X_fewest_19   σ8 else b2 (f_World_setOut 0 σ8) (fun v10 σ11 => b2 (f_World_survey 0 σ11) (fun v13 σ14 => Option.bind (lp (fun a => b_X_fewest_51 x1 x2 v10 a.1 a.2.1 a.2.2.1 a.2.2.2) FU ((iI (-1)), (iI 9), (iI 0), σ14)) (fun b31 => (if (iI 0) ≤ b31.1 then some (b31.1, b31.2) else b2 (f_X_found (iI (-1000000004)) b31.2) (fun v28 σ29 => some (v28, σ29))))))))))
theorem ok_X_fewest (g : Gv) (x1 : Int32) (x2 : Int32) (σ : Sg) (r : Int32 × Sg) (hf : f_X_fewest x1 x2 σ = some r) : Ok g y_X_fewest c_X_fewest 8 (some .int) 5 [.ref (gAd g (0, 0, 0)), .int x1, .int x2] σ (some (.int r.1), r.2) := by
  unfold f_X_fewest at hf
  refine Ok.of [(0, .ref (gAd g (0, 0, 0))), (1, .int x1), (2, .int x2)] (by decide) (Nat.le_of_ble_eq_true rfl) rfl ?_
  intro x hc
  have hc : Zc x g c_X_fewest R_X 8 (some .int) 5 := hc
  obtain ⟨ρ, hρ⟩ : ∃ ρ : Option Value × Sg, ρ = (some (.int r.1), r.2) := ⟨_, rfl⟩
  rw [← hρ]
  refine z_iload_n hc d_X_fewest_0 1 rfl ?_
  refine z_iconst (v := (iI 0)) hc d_X_fewest_1 (by decide) ?_
  refine z_iconst (v := (iI 3)) hc d_X_fewest_2 (by decide) ?_
  obtain ⟨v1, σ2, h3, hf⟩ := bd2 hf
  refine cz_X_85 hc d_X_fewest_3 (by decide)  h3 (Nat.le_of_ble_eq_true rfl) ?_
  refine z_if_eq (tgt := 19) hc d_X_fewest_6 (by decide) (fun hq => ?_) (fun hq => ?_)
  · have hf := ifp hq hf
    refine z_sub [0] (L' := [(0, .ref (gAd g (0, 0, 0)))]) rfl ?_
    exact sj_X_fewest_19 hc     σ2 _ hf hρ
  · have hf := ifn hq hf
    refine z_iload_n hc d_X_fewest_9 2 rfl ?_
    refine z_iconst (v := (iI 0)) hc d_X_fewest_10 (by decide) ?_
    refine z_bipush (v := (iI 40)) hc d_X_fewest_11 (by decide) ?_
    obtain ⟨v7, σ8, h9, hf⟩ := bd2 hf
    refine cz_X_85 hc d_X_fewest_13 (by decide)  h9 (Nat.le_of_ble_eq_true rfl) ?_
    refine z_if_ne (tgt := 26) hc d_X_fewest_16 (by decide) (fun hq => ?_) (fun hq => ?_)
    · have hf := ifn hq hf
      refine z_aload_n hc d_X_fewest_26 0 rfl ?_
      refine gf_X_50 hc d_X_fewest_27  ?_
      obtain ⟨v10, σ11, h12, hf⟩ := bd2 hf
      refine cz_X_119 hc d_X_fewest_30 (by decide) (by decide) h12 (Nat.le_of_ble_eq_true rfl) ?_
      refine z_istore_n (L' := [(3, .int v10), (0, .ref (gAd g (0, 0, 0))), (1, .int x1), (2, .int x2)]) hc d_X_fewest_33 (by decide) rfl ?_
      refine z_aload_n hc d_X_fewest_34 1 rfl ?_
      refine gf_X_50 hc d_X_fewest_35  ?_
      obtain ⟨v13, σ14, h15, hf⟩ := bd2 hf
      refine cz_X_232 hc d_X_fewest_38 (by decide) (by decide) h15 (Nat.le_of_ble_eq_true rfl) ?_
      refine z_iconst (v := (iI (-1))) hc d_X_fewest_41 (by decide) ?_
      refine z_istore (L' := [(4, .int (iI (-1))), (3, .int v10), (0, .ref (gAd g (0, 0, 0))), (1, .int x1), (2, .int x2)]) hc d_X_fewest_42 (by decide) rfl ?_
      refine z_bipush (v := (iI 9)) hc d_X_fewest_44 (by decide) ?_
      refine z_istore (L' := [(5, .int (iI 9)), (4, .int (iI (-1))), (3, .int v10), (0, .ref (gAd g (0, 0, 0))), (1, .int x1), (2, .int x2)]) hc d_X_fewest_46 (by decide) rfl ?_
      refine z_iconst (v := (iI 0)) hc d_X_fewest_48 (by decide) ?_
      refine z_istore (L' := [(6, .int (iI 0)), (5, .int (iI 9)), (4, .int (iI (-1))), (3, .int v10), (0, .ref (gAd g (0, 0, 0))), (1, .int x1), (2, .int x2)]) hc d_X_fewest_49 (by decide) rfl ?_
      refine z_sub [4, 5, 6, 3, 2, 1, 0] (L' := [(0, .ref (gAd g (0, 0, 0))), (1, .int x1), (2, .int x2), (3, .int v10), (4, .int (iI (-1))), (5, .int (iI 9)), (6, .int (iI 0))]) rfl ?_
      obtain ⟨⟨y26, σ27⟩, hl32, hf⟩ := bd hf
      try dsimp only at hf
      refine lp_walk (α := (Int32 × Int32 × Int32 × Sg)) (β := (Int32 × Sg)) (body := (fun a : (Int32 × Int32 × Int32 × Sg) => b_X_fewest_51 x1 x2 v10 a.1 a.2.1 a.2.2.1 a.2.2.2)) (In := (fun a : (Int32 × Int32 × Int32 × Sg) => Z x g 8 ρ 51 [(0, .ref (gAd g (0, 0, 0))), (1, .int x1), (2, .int x2), (3, .int v10), (4, .int a.1), (5, .int a.2.1), (6, .int a.2.2.1)] [] a.2.2.2)) (Out := (fun b => Z x g 8 ρ 121 [(0, .ref (gAd g (0, 0, 0))), (4, .int b.1)] [] b.2)) (fun a r hb hi ho => sb_X_fewest_51 hc x1 x2 v10  a.1 a.2.1 a.2.2.1 a.2.2.2 r hb hi (fun b e => ho _ e)) FU ((iI (-1)), (iI 9), (iI 0), σ14) _ hl32 ?_
      dsimp only
      refine z_iload hc d_X_fewest_121 1 rfl ?_
      refine z_if_ge (tgt := 135) hc d_X_fewest_123 (by decide) (fun hq => ?_) (fun hq => ?_)
      · have hf := ifp hq hf
        refine z_iload hc d_X_fewest_135 1 rfl ?_
        exact z_iret hc d_X_fewest_137 (rI hf hρ)
      · have hf := ifn hq hf
        refine z_aload_n hc d_X_fewest_126 0 rfl ?_
        refine z_ldc (v := (iI (-1000000004))) hc co_X_225 d_X_fewest_127 ?_
        obtain ⟨v28, σ29, h30, hf⟩ := bd2 hf
        refine cz_X_90 hc d_X_fewest_129 (by decide)  h30 (Nat.le_of_ble_eq_true rfl) ?_
        refine z_goto (tgt := 137) hc d_X_fewest_132 (by decide) ?_
        exact z_iret hc d_X_fewest_137 (rI hf hρ)
    · have hf := ifp hq hf
      refine z_sub [0] (L' := [(0, .ref (gAd g (0, 0, 0)))]) rfl ?_
      exact sj_X_fewest_19 hc     σ8 _ hf hρ
theorem vl_X_249 : VL R_X 249 y_Tape_addByte c_Tape_addByte 2 none 1 := ⟨tb3 166 (by decide +kernel) (by decide +kernel), tb3 167 (by decide +kernel) (by decide +kernel), tb3 168 (by decide +kernel) (by decide +kernel), tb1 10 (by decide +kernel) (by decide +kernel), k_Tape_addByte, by decide, by decide, by decide +kernel, by decide⟩
theorem cz_X_249 {x : Cx} {g : Gv} {cc : ByteArray} {nL d pc : Nat} {ret : Option FieldType} {ρ : Option Value × Sg} {L : List (Nat × Value)} {st : List Value} {σ : Sg} (hc : Zc x g cc R_X nL ret d) (hd : decode cc pc = .ok (.invokevirtual 249, 3)) (hdd : 1 ≤ d) {x1 : Int32} {v : Unit} {σ1 : Sg} (hf : f_Tape_addByte x1 σ = some (v, σ1)) (hst : (st.map (fun v => v.category)).sum ≤ 8) (k : Z x g nL ρ (pc + 3) L (st) σ1) : Z x g nL ρ pc L (.int x1 :: .ref (gAd g (4, 0, 0)) :: st) σ := z_callV (ci := 7) (As := [.int x1]) hc hd vl_X_249 hdd (4, 0, 0) (dm_Tape) rfl rfl (ok_Tape_addByte g x1 σ (v, σ1) hf) rfl rfl hst rfl k
def b_X_feed_41 (x1 : Int32) (x3 : Int32) (σ : Sg) : Option ((Int32 × Sg) ⊕ (Sg)) :=
  (if x3 < (iI 0) then some (.inr σ) else b2 (f_Tape_addByte ((x1 >>> (((iI 8) * x3) &&& 31)) &&& (iI 255)) σ) (fun v4 σ5 => some (.inl (x3 + (iI (-1)), σ5))))
theorem sb_X_feed_41 {x : Cx} {g : Gv} {ρ : Option Value × Sg} (hc : Zc x g c_X_feed R_X 4 (some .int) 2) (x1 : Int32) (x3 : Int32) (σ : Sg) (r : (Int32 × Sg) ⊕ (Sg)) (hf : b_X_feed_41 x1 x3 σ = some r) (hi : ∀ a', r = .inl a' → Z x g 4 ρ 41 [(0, .ref (gAd g (0, 0, 0))), (1, .int x1), (3, .int a'.1)] [] a'.2) (he0 : ∀ b, r = .inr b → Z x g 4 ρ 68 [(0, .ref (gAd g (0, 0, 0)))] [] b) : Z x g 4 ρ 41 [(0, .ref (gAd g (0, 0, 0))), (1, .int x1), (3, .int x3)] [] σ := by
  unfold b_X_feed_41 at hf
  refine z_iload_n hc d_X_feed_41 2 rfl ?_
  refine z_if_lt (tgt := 68) hc d_X_feed_42 (by decide) (fun hq => ?_) (fun hq => ?_)
  · have hf := ifp hq hf
    refine z_sub [0] (L' := [(0, .ref (gAd g (0, 0, 0)))]) rfl ?_
    exact he0 σ (Option.some.inj hf).symm
  · have hf := ifn hq hf
    refine z_aload_n hc d_X_feed_45 0 rfl ?_
    refine gf_X_70 hc d_X_feed_46  ?_
    refine z_iload_n hc d_X_feed_49 1 rfl ?_
    refine z_bipush (v := (iI 8)) hc d_X_feed_50 (by decide) ?_
    refine z_iload_n hc d_X_feed_52 2 rfl ?_
    refine z_imul hc d_X_feed_53 ?_
    refine z_ishr hc d_X_feed_54 ?_
    refine z_sipush (v := (iI 255)) hc d_X_feed_55 (by decide) ?_
    refine z_iand hc d_X_feed_58 ?_
    obtain ⟨v4, σ5, h6, hf⟩ := bd2 hf
    refine cz_X_249 hc d_X_feed_59 (by decide)  h6 (Nat.le_of_ble_eq_true rfl) ?_
    refine z_iinc (v := x3 + (iI (-1))) (L' := [(3, .int (x3 + (iI (-1)))), (0, .ref (gAd g (0, 0, 0))), (1, .int x1)]) hc d_X_feed_62 2 rfl rfl (by decide) rfl ?_
    refine z_goto (tgt := 41) hc d_X_feed_65 (by decide) ?_
    refine z_sub [1, 2, 0] (L' := [(0, .ref (gAd g (0, 0, 0))), (1, .int x1), (3, .int (x3 + (iI (-1))))]) rfl ?_
    exact hi (x3 + (iI (-1)), σ5) (Option.some.inj hf).symm
def f_X_feed (x1 : Int32) (x2 : Int32) (σ : Sg) : Option (Int32 × Sg) :=
  b2 (f_X_within x2 (iI 1) (iI 4) σ) (fun v1 σ2 => (if v1 = (iI 0) then b2 (f_X_found (iI (-1000000001)) σ2) (fun v14 σ15 => some (v14, σ15)) else (if (σ2.1 4 0 0 0) ≤ ((iI 120) - x2) then Option.bind (lp (fun a => b_X_feed_41 x1 a.1 a.2) FU (x2 - (iI 1), σ2)) (fun b9 => some (b9.1 4 0 0 0, b9)) else b2 (f_X_found (iI (-1000000002)) σ2) (fun v11 σ12 => some (v11, σ12)))))
theorem ok_X_feed (g : Gv) (x1 : Int32) (x2 : Int32) (σ : Sg) (r : Int32 × Sg) (hf : f_X_feed x1 x2 σ = some r) : Ok g y_X_feed c_X_feed 4 (some .int) 2 [.ref (gAd g (0, 0, 0)), .int x1, .int x2] σ (some (.int r.1), r.2) := by
  unfold f_X_feed at hf
  refine Ok.of [(0, .ref (gAd g (0, 0, 0))), (1, .int x1), (2, .int x2)] (by decide) (Nat.le_of_ble_eq_true rfl) rfl ?_
  intro x hc
  have hc : Zc x g c_X_feed R_X 4 (some .int) 2 := hc
  obtain ⟨ρ, hρ⟩ : ∃ ρ : Option Value × Sg, ρ = (some (.int r.1), r.2) := ⟨_, rfl⟩
  rw [← hρ]
  refine z_iload_n hc d_X_feed_0 2 rfl ?_
  refine z_iconst (v := (iI 1)) hc d_X_feed_1 (by decide) ?_
  refine z_iconst (v := (iI 4)) hc d_X_feed_2 (by decide) ?_
  obtain ⟨v1, σ2, h3, hf⟩ := bd2 hf
  refine cz_X_85 hc d_X_feed_3 (by decide)  h3 (Nat.le_of_ble_eq_true rfl) ?_
  refine z_if_ne (tgt := 16) hc d_X_feed_6 (by decide) (fun hq => ?_) (fun hq => ?_)
  · have hf := ifn hq hf
    refine z_aload_n hc d_X_feed_16 0 rfl ?_
    refine gf_X_70 hc d_X_feed_17  ?_
    refine gf_X_246 hc d_X_feed_20  ?_
    refine z_bipush (v := (iI 120)) hc d_X_feed_23 (by decide) ?_
    refine z_iload_n hc d_X_feed_25 2 rfl ?_
    refine z_isub hc d_X_feed_26 ?_
    refine z_icmp_le (tgt := 37) hc d_X_feed_27 (by decide) (fun hq => ?_) (fun hq => ?_)
    · have hf := ifp hq hf
      refine z_iload_n hc d_X_feed_37 2 rfl ?_
      refine z_iconst (v := (iI 1)) hc d_X_feed_38 (by decide) ?_
      refine z_isub hc d_X_feed_39 ?_
      refine z_istore_n (L' := [(3, .int (x2 - (iI 1))), (0, .ref (gAd g (0, 0, 0))), (1, .int x1), (2, .int x2)]) hc d_X_feed_40 (by decide) rfl ?_
      refine z_sub [1, 2, 0] (L' := [(0, .ref (gAd g (0, 0, 0))), (1, .int x1), (3, .int (x2 - (iI 1)))]) rfl ?_
      obtain ⟨σ8, hl10, hf⟩ := bd hf
      try dsimp only at hf
      refine lp_walk (α := (Int32 × Sg)) (β := (Sg)) (body := (fun a : (Int32 × Sg) => b_X_feed_41 x1 a.1 a.2)) (In := (fun a : (Int32 × Sg) => Z x g 4 ρ 41 [(0, .ref (gAd g (0, 0, 0))), (1, .int x1), (3, .int a.1)] [] a.2)) (Out := (fun b => Z x g 4 ρ 68 [(0, .ref (gAd g (0, 0, 0)))] [] b)) (fun a r hb hi ho => sb_X_feed_41 hc x1  a.1 a.2 r hb hi (fun b e => ho _ e)) FU (x2 - (iI 1), σ2) _ hl10 ?_
      refine z_aload_n hc d_X_feed_68 0 rfl ?_
      refine gf_X_70 hc d_X_feed_69  ?_
      refine gf_X_246 hc d_X_feed_72  ?_
      exact z_iret hc d_X_feed_75 (rI hf hρ)
    · have hf := ifn hq hf
      refine z_aload_n hc d_X_feed_30 0 rfl ?_
      refine z_ldc (v := (iI (-1000000002))) hc co_X_130 d_X_feed_31 ?_
      obtain ⟨v11, σ12, h13, hf⟩ := bd2 hf
      refine cz_X_90 hc d_X_feed_33 (by decide)  h13 (Nat.le_of_ble_eq_true rfl) ?_
      exact z_iret hc d_X_feed_36 (rI hf hρ)
  · have hf := ifp hq hf
    refine z_aload_n hc d_X_feed_9 0 rfl ?_
    refine z_ldc (v := (iI (-1000000001))) hc co_X_89 d_X_feed_10 ?_
    obtain ⟨v14, σ15, h16, hf⟩ := bd2 hf
    refine cz_X_90 hc d_X_feed_12 (by decide)  h16 (Nat.le_of_ble_eq_true rfl) ?_
    exact z_iret hc d_X_feed_15 (rI hf hρ)
def f_X_wipe (σ : Sg) : Option (Int32 × Sg) :=
  some (σ.1 4 0 0 0, upI σ 4 0 0 0 (iI 0))
theorem ok_X_wipe (g : Gv) (σ : Sg) (r : Int32 × Sg) (hf : f_X_wipe σ = some r) : Ok g y_X_wipe c_X_wipe 2 (some .int) 0 [.ref (gAd g (0, 0, 0))] σ (some (.int r.1), r.2) := by
  unfold f_X_wipe at hf
  refine Ok.of [(0, .ref (gAd g (0, 0, 0)))] (by decide) (Nat.le_of_ble_eq_true rfl) rfl ?_
  intro x hc
  have hc : Zc x g c_X_wipe R_X 2 (some .int) 0 := hc
  obtain ⟨ρ, hρ⟩ : ∃ ρ : Option Value × Sg, ρ = (some (.int r.1), r.2) := ⟨_, rfl⟩
  rw [← hρ]
  refine z_aload_n hc d_X_wipe_0 0 rfl ?_
  refine gf_X_70 hc d_X_wipe_1  ?_
  refine gf_X_246 hc d_X_wipe_4  ?_
  refine z_istore_n (L' := [(1, .int (σ.1 4 0 0 0)), (0, .ref (gAd g (0, 0, 0)))]) hc d_X_wipe_7 (by decide) rfl ?_
  refine z_aload_n hc d_X_wipe_8 1 rfl ?_
  refine gf_X_70 hc d_X_wipe_9  ?_
  refine z_iconst (v := (iI 0)) hc d_X_wipe_12 (by decide) ?_
  refine pf_X_246 hc d_X_wipe_13  ?_
  refine z_iload_n hc d_X_wipe_16 0 rfl ?_
  exact z_iret hc d_X_wipe_17 (rI hf hρ)
theorem vl_X_252 : SL R_X 252 y_PalaceReader_tell c_PalaceReader_tell 4 (some .int) 3 := ⟨tb3 178 (by decide +kernel) (by decide +kernel), tb3 179 (by decide +kernel) (by decide +kernel), tb1 17 (by decide +kernel) (by decide +kernel), k_PalaceReader_tell, by decide, by decide, by decide +kernel, by decide⟩
theorem cz_X_252 {x : Cx} {g : Gv} {cc : ByteArray} {nL d pc : Nat} {ret : Option FieldType} {ρ : Option Value × Sg} {L : List (Nat × Value)} {st : List Value} {σ : Sg} (hc : Zc x g cc R_X nL ret d) (hd : decode cc pc = .ok (.invokestatic 252, 3)) (hdd : 10 ≤ d) {w1 : Nat} (hv1 : w1 < 3) {v : Int32} {σ1 : Sg} (hf : f_PalaceReader_tell w1 σ = some (v, σ1)) (hst : (st.map (fun v => v.category)).sum ≤ 8) (k : Z x g nL ρ (pc + 3) L (.int v :: st) σ1) : Z x g nL ρ pc L (.ref (gAd g (10, 0, 0)) :: .ref (gAd g (1, w1, 0)) :: .ref (gAd g (4, 0, 0)) :: st) σ := z_callS (As := [.ref (gAd g (4, 0, 0)), .ref (gAd g (1, w1, 0)), .ref (gAd g (10, 0, 0))]) hc hd vl_X_252 hdd (ok_PalaceReader_tell g w1 hv1 σ (v, σ1) hf) rfl rfl hst rfl k
def f_X_palace (σ : Sg) : Option (Int32 × Sg) :=
  b2 (f_World_become 2 0 σ) (fun v1 σ2 => b2 (f_PalaceReader_tell 2 σ2) (fun v4 σ5 => (if v4 < (iI 0) then some (v4, upI σ5 4 0 0 0 (iI 0)) else b2 (f_World_become 0 2 (upI σ5 4 0 0 0 (iI 0))) (fun v7 σ8 => some (v4, σ8)))))
theorem ok_X_palace (g : Gv) (σ : Sg) (r : Int32 × Sg) (hf : f_X_palace σ = some r) : Ok g y_X_palace c_X_palace 2 (some .int) 10 [.ref (gAd g (0, 0, 0))] σ (some (.int r.1), r.2) := by
  unfold f_X_palace at hf
  refine Ok.of [(0, .ref (gAd g (0, 0, 0)))] (by decide) (Nat.le_of_ble_eq_true rfl) rfl ?_
  intro x hc
  have hc : Zc x g c_X_palace R_X 2 (some .int) 10 := hc
  obtain ⟨ρ, hρ⟩ : ∃ ρ : Option Value × Sg, ρ = (some (.int r.1), r.2) := ⟨_, rfl⟩
  rw [← hρ]
  refine z_aload_n hc d_X_palace_0 0 rfl ?_
  refine gf_X_57 hc d_X_palace_1  ?_
  refine z_aload_n hc d_X_palace_4 0 rfl ?_
  refine gf_X_50 hc d_X_palace_5  ?_
  obtain ⟨v1, σ2, h3, hf⟩ := bd2 hf
  refine cz_X_219 hc d_X_palace_8 (by decide) (by decide) (by decide) h3 (Nat.le_of_ble_eq_true rfl) ?_
  refine z_aload_n hc d_X_palace_11 0 rfl ?_
  refine gf_X_70 hc d_X_palace_12  ?_
  refine z_aload_n hc d_X_palace_15 0 rfl ?_
  refine gf_X_57 hc d_X_palace_16  ?_
  refine z_aload_n hc d_X_palace_19 0 rfl ?_
  refine gf_X_41 hc d_X_palace_20  ?_
  obtain ⟨v4, σ5, h6, hf⟩ := bd2 hf
  refine cz_X_252 hc d_X_palace_23 (by decide) (by decide) h6 (Nat.le_of_ble_eq_true rfl) ?_
  refine z_istore_n (L' := [(1, .int v4), (0, .ref (gAd g (0, 0, 0)))]) hc d_X_palace_26 (by decide) rfl ?_
  refine z_aload_n hc d_X_palace_27 1 rfl ?_
  refine gf_X_70 hc d_X_palace_28  ?_
  refine z_iconst (v := (iI 0)) hc d_X_palace_31 (by decide) ?_
  refine pf_X_246 hc d_X_palace_32  ?_
  refine z_iload_n hc d_X_palace_35 0 rfl ?_
  refine z_if_lt (tgt := 50) hc d_X_palace_36 (by decide) (fun hq => ?_) (fun hq => ?_)
  · have hf := ifp hq hf
    refine z_iload_n hc d_X_palace_50 0 rfl ?_
    exact z_iret hc d_X_palace_51 (rI hf hρ)
  · have hf := ifn hq hf
    refine z_aload_n hc d_X_palace_39 1 rfl ?_
    refine gf_X_50 hc d_X_palace_40  ?_
    refine z_aload_n hc d_X_palace_43 1 rfl ?_
    refine gf_X_57 hc d_X_palace_44  ?_
    obtain ⟨v7, σ8, h9, hf⟩ := bd2 hf
    refine cz_X_219 hc d_X_palace_47 (by decide) (by decide) (by decide) h9 (Nat.le_of_ble_eq_true rfl) ?_
    refine z_iload_n hc d_X_palace_50 0 rfl ?_
    exact z_iret hc d_X_palace_51 (rI hf hρ)
def f_X_isSheet (x1 : Int32) (σ : Sg) : Option (Int32 × Sg) :=
  b2 (f_X_within x1 (iI 0) (iI 3) σ) (fun v1 σ2 => Option.bind (bo v1) (fun r4 => some (r4, σ2)))
theorem ok_X_isSheet (g : Gv) (x1 : Int32) (σ : Sg) (r : Int32 × Sg) (hf : f_X_isSheet x1 σ = some r) : Ok g y_X_isSheet c_X_isSheet 2 (some .boolean) 1 [.ref (gAd g (0, 0, 0)), .int x1] σ (some (.int r.1), r.2) := by
  unfold f_X_isSheet at hf
  refine Ok.of [(0, .ref (gAd g (0, 0, 0))), (1, .int x1)] (by decide) (Nat.le_of_ble_eq_true rfl) rfl ?_
  intro x hc
  have hc : Zc x g c_X_isSheet R_X 2 (some .boolean) 1 := hc
  obtain ⟨ρ, hρ⟩ : ∃ ρ : Option Value × Sg, ρ = (some (.int r.1), r.2) := ⟨_, rfl⟩
  rw [← hρ]
  refine z_iload_n hc d_X_isSheet_0 1 rfl ?_
  refine z_iconst (v := (iI 0)) hc d_X_isSheet_1 (by decide) ?_
  refine z_iconst (v := (iI 3)) hc d_X_isSheet_2 (by decide) ?_
  obtain ⟨v1, σ2, h3, hf⟩ := bd2 hf
  refine cz_X_85 hc d_X_isSheet_3 (by decide)  h3 (Nat.le_of_ble_eq_true rfl) ?_
  obtain ⟨r4, hb1, hf⟩ := bd hf
  exact z_bret hc d_X_isSheet_6 hb1 hf hρ
theorem vl_X_258 : VL R_X 258 y_X_isSheet c_X_isSheet 2 (some .boolean) 1 := ⟨tb4 46 (by decide +kernel) (by decide +kernel), tb4 48 (by decide +kernel) (by decide +kernel), tbp 6 (by decide +kernel), tb1 1 (by decide +kernel) (by decide +kernel), k_X_isSheet, by decide, by decide, by decide +kernel, by decide⟩
theorem cz_X_258 {x : Cx} {g : Gv} {cc : ByteArray} {nL d pc : Nat} {ret : Option FieldType} {ρ : Option Value × Sg} {L : List (Nat × Value)} {st : List Value} {σ : Sg} (hc : Zc x g cc R_X nL ret d) (hd : decode cc pc = .ok (.invokevirtual 258, 3)) (hdd : 2 ≤ d) {x1 : Int32} {v : Int32} {σ1 : Sg} (hf : f_X_isSheet x1 σ = some (v, σ1)) (hst : (st.map (fun v => v.category)).sum ≤ 8) (k : Z x g nL ρ (pc + 3) L (.int v :: st) σ1) : Z x g nL ρ pc L (.int x1 :: .ref (gAd g (0, 0, 0)) :: st) σ := z_callV (ci := 10) (As := [.int x1]) hc hd vl_X_258 hdd (0, 0, 0) (dm_X) rfl rfl (ok_X_isSheet g x1 σ (v, σ1) hf) rfl rfl hst rfl k
theorem vl_X_262 : VL R_X 262 y_Sheet_begin c_Sheet_begin 4 none 2 := ⟨tb4 51 (by decide +kernel) (by decide +kernel), tb4 52 (by decide +kernel) (by decide +kernel), tb4 53 (by decide +kernel) (by decide +kernel), tb1 11 (by decide +kernel) (by decide +kernel), k_Sheet_begin, by decide, by decide, by decide +kernel, by decide⟩
theorem cz_X_262 {x : Cx} {g : Gv} {cc : ByteArray} {nL d pc : Nat} {ret : Option FieldType} {ρ : Option Value × Sg} {L : List (Nat × Value)} {st : List Value} {σ : Sg} (hc : Zc x g cc R_X nL ret d) (hd : decode cc pc = .ok (.invokevirtual 262, 3)) (hdd : 1 ≤ d) {w0 : Nat} {x1 : Int32} {x2 : Int32} (hv0 : w0 < 4) {v : Unit} {σ1 : Sg} (hf : f_Sheet_begin w0 x1 x2 σ = some (v, σ1)) (hst : (st.map (fun v => v.category)).sum ≤ 8) (k : Z x g nL ρ (pc + 3) L (st) σ1) : Z x g nL ρ pc L (.int x2 :: .int x1 :: .ref (gAd g (3, w0, 0)) :: st) σ := z_callV (ci := 5) (As := [.int x1, .int x2]) hc hd vl_X_262 hdd (3, w0, 0) (dm_Sheet hv0) rfl rfl (ok_Sheet_begin g w0 x1 x2 hv0 σ (v, σ1) hf) rfl rfl hst rfl k
def j_X_sheet_30 (σ : Sg) : Option (Int32 × Sg) :=
  b2 (f_X_found (iI (-1000000001)) σ) (fun v4 σ5 => some (v4, σ5))
theorem sj_X_sheet_30 {x : Cx} {g : Gv} {ρ : Option Value × Sg} (hc : Zc x g c_X_sheet R_X 4 (some .int) 2) (σ : Sg) (r : Int32 × Sg) (hf : j_X_sheet_30 σ = some r) (hρ : ρ = (some (.int r.1), r.2)) : Z x g 4 ρ 30 [(0, .ref (gAd g (0, 0, 0)))] [] σ := by
  unfold j_X_sheet_30 at hf
  refine z_aload_n hc d_X_sheet_30 0 rfl ?_
  refine z_ldc (v := (iI (-1000000001))) hc co_X_89 d_X_sheet_31 ?_
  obtain ⟨v4, σ5, h6, hf⟩ := bd2 hf
  refine cz_X_90 hc d_X_sheet_33 (by decide)  h6 (Nat.le_of_ble_eq_true rfl) ?_
  exact z_iret hc d_X_sheet_36 (rI hf hρ)
def j_X_sheet_78 (x1 : Int32) (xs0 : Int32) (xs1 : Int32) (ws2 : Nat) (σ : Sg) : Option (Int32 × Sg) :=
  b2 (f_Sheet_begin ws2 xs1 xs0 σ) (fun v9 σ10 => Option.bind (rd x1 4) (fun j12 => some (σ10.1 3 j12 0 1, σ10)))
theorem sj_X_sheet_78 {x : Cx} {g : Gv} {ρ : Option Value × Sg} (hc : Zc x g c_X_sheet R_X 4 (some .int) 2) (x1 : Int32) (xs0 : Int32) (xs1 : Int32) (ws2 : Nat) (hvs2 : ws2 < 4) (σ : Sg) (r : Int32 × Sg) (hf : j_X_sheet_78 x1 xs0 xs1 ws2 σ = some r) (hρ : ρ = (some (.int r.1), r.2)) : Z x g 4 ρ 78 [(0, .ref (gAd g (0, 0, 0))), (1, .int x1)] [.int xs0, .int xs1, .ref (gAd g (3, ws2, 0))] σ := by
  unfold j_X_sheet_78 at hf
  obtain ⟨v9, σ10, h11, hf⟩ := bd2 hf
  refine cz_X_262 hc d_X_sheet_78 (by decide) hvs2 h11 (Nat.le_of_ble_eq_true rfl) ?_
  refine z_aload_n hc d_X_sheet_81 0 rfl ?_
  refine gf_X_76 hc d_X_sheet_82  ?_
  refine z_iload_n hc d_X_sheet_85 1 rfl ?_
  obtain ⟨j12, hj13, hf⟩ := bd hf
  refine ald_sheets hc d_X_sheet_86  hj13 ?_
  refine gf_X_265 hc d_X_sheet_87 (rd_lt hj13) ?_
  exact z_iret hc d_X_sheet_90 (rI hf hρ)
def j_X_sheet_37 (x1 : Int32) (x2 : Int32) (x3 : Int32) (σ : Sg) : Option (Int32 × Sg) :=
  (if (iI 0) ≤ x3 then (if x3 ≤ (iI 40) then Option.bind (rd x1 4) (fun j7 => (if x2 = (iI 0) then j_X_sheet_78 x1 (iI 0) x2 j7 σ else j_X_sheet_78 x1 x3 x2 j7 σ)) else b2 (f_X_found (iI (-1000000001)) σ) (fun v14 σ15 => some (v14, σ15))) else b2 (f_X_found (iI (-1000000007)) σ) (fun v17 σ18 => some (v17, σ18)))
theorem sj_X_sheet_37 {x : Cx} {g : Gv} {ρ : Option Value × Sg} (hc : Zc x g c_X_sheet R_X 4 (some .int) 2) (x1 : Int32) (x2 : Int32) (x3 : Int32) (σ : Sg) (r : Int32 × Sg) (hf : j_X_sheet_37 x1 x2 x3 σ = some r) (hρ : ρ = (some (.int r.1), r.2)) : Z x g 4 ρ 37 [(0, .ref (gAd g (0, 0, 0))), (1, .int x1), (2, .int x2), (3, .int x3)] [] σ := by
  unfold j_X_sheet_37 at hf
  refine z_iload_n hc d_X_sheet_37 3 rfl ?_
  refine z_if_ge (tgt := 49) hc d_X_sheet_38 (by decide) (fun hq => ?_) (fun hq => ?_)
  · have hf := ifp hq hf
    refine z_iload_n hc d_X_sheet_49 3 rfl ?_
    refine z_bipush (v := (iI 40)) hc d_X_sheet_50 (by decide) ?_
    refine z_icmp_le (tgt := 62) hc d_X_sheet_52 (by decide) (fun hq => ?_) (fun hq => ?_)
    · have hf := ifp hq hf
      refine z_aload_n hc d_X_sheet_62 0 rfl ?_
      refine gf_X_76 hc d_X_sheet_63  ?_
      refine z_iload_n hc d_X_sheet_66 1 rfl ?_
      obtain ⟨j7, hj8, hf⟩ := bd hf
      refine ald_sheets hc d_X_sheet_67  hj8 ?_
      refine z_iload_n hc d_X_sheet_68 2 rfl ?_
      refine z_iload_n hc d_X_sheet_69 2 rfl ?_
      refine z_if_ne (tgt := 77) hc d_X_sheet_70 (by decide) (fun hq => ?_) (fun hq => ?_)
      · have hf := ifn hq hf
        refine z_iload_n hc d_X_sheet_77 3 rfl ?_
        refine z_sub [0, 1] (L' := [(0, .ref (gAd g (0, 0, 0))), (1, .int x1)]) rfl ?_
        exact sj_X_sheet_78 hc x1 x3 x2 j7  (rd_lt hj8) σ _ hf hρ
      · have hf := ifp hq hf
        refine z_iconst (v := (iI 0)) hc d_X_sheet_73 (by decide) ?_
        refine z_goto (tgt := 78) hc d_X_sheet_74 (by decide) ?_
        refine z_sub [0, 1] (L' := [(0, .ref (gAd g (0, 0, 0))), (1, .int x1)]) rfl ?_
        exact sj_X_sheet_78 hc x1 (iI 0) x2 j7  (rd_lt hj8) σ _ hf hρ
    · have hf := ifn hq hf
      refine z_aload_n hc d_X_sheet_55 0 rfl ?_
      refine z_ldc (v := (iI (-1000000001))) hc co_X_89 d_X_sheet_56 ?_
      obtain ⟨v14, σ15, h16, hf⟩ := bd2 hf
      refine cz_X_90 hc d_X_sheet_58 (by decide)  h16 (Nat.le_of_ble_eq_true rfl) ?_
      exact z_iret hc d_X_sheet_61 (rI hf hρ)
  · have hf := ifn hq hf
    refine z_aload_n hc d_X_sheet_41 0 rfl ?_
    refine z_ldcw (v := (iI (-1000000007))) hc co_X_261 d_X_sheet_42 ?_
    obtain ⟨v17, σ18, h19, hf⟩ := bd2 hf
    refine cz_X_90 hc d_X_sheet_45 (by decide)  h19 (Nat.le_of_ble_eq_true rfl) ?_
    exact z_iret hc d_X_sheet_48 (rI hf hρ)
def f_X_sheet (x1 : Int32) (x2 : Int32) (x3 : Int32) (σ : Sg) : Option (Int32 × Sg) :=
  b2 (f_X_isSheet x1 σ) (fun v1 σ2 => (if v1 = (iI 0) then j_X_sheet_30   σ2 else (if x2 = (iI 0) then j_X_sheet_37 x1 x2 x3  σ2 else (if x2 = (iI 8) then j_X_sheet_37 x1 x2 x3  σ2 else (if x2 = (iI 16) then j_X_sheet_37 x1 x2 x3  σ2 else (if x2 = (iI 64) then j_X_sheet_37 x1 x2 x3  σ2 else j_X_sheet_30   σ2))))))
theorem ok_X_sheet (g : Gv) (x1 : Int32) (x2 : Int32) (x3 : Int32) (σ : Sg) (r : Int32 × Sg) (hf : f_X_sheet x1 x2 x3 σ = some r) : Ok g y_X_sheet c_X_sheet 4 (some .int) 2 [.ref (gAd g (0, 0, 0)), .int x1, .int x2, .int x3] σ (some (.int r.1), r.2) := by
  unfold f_X_sheet at hf
  refine Ok.of [(0, .ref (gAd g (0, 0, 0))), (1, .int x1), (2, .int x2), (3, .int x3)] (by decide) (Nat.le_of_ble_eq_true rfl) rfl ?_
  intro x hc
  have hc : Zc x g c_X_sheet R_X 4 (some .int) 2 := hc
  obtain ⟨ρ, hρ⟩ : ∃ ρ : Option Value × Sg, ρ = (some (.int r.1), r.2) := ⟨_, rfl⟩
  rw [← hρ]
  refine z_aload_n hc d_X_sheet_0 0 rfl ?_
  refine z_iload_n hc d_X_sheet_1 1 rfl ?_
  obtain ⟨v1, σ2, h3, hf⟩ := bd2 hf
  refine cz_X_258 hc d_X_sheet_2 (by decide)  h3 (Nat.le_of_ble_eq_true rfl) ?_
  refine z_if_eq (tgt := 30) hc d_X_sheet_5 (by decide) (fun hq => ?_) (fun hq => ?_)
  · have hf := ifp hq hf
    refine z_sub [0] (L' := [(0, .ref (gAd g (0, 0, 0)))]) rfl ?_
    exact sj_X_sheet_30 hc     σ2 _ hf hρ
  · have hf := ifn hq hf
    refine z_iload_n hc d_X_sheet_8 2 rfl ?_
    refine z_if_eq (tgt := 37) hc d_X_sheet_9 (by decide) (fun hq => ?_) (fun hq => ?_)
    · have hf := ifp hq hf
      refine z_sub [0, 1, 2, 3] (L' := [(0, .ref (gAd g (0, 0, 0))), (1, .int x1), (2, .int x2), (3, .int x3)]) rfl ?_
      exact sj_X_sheet_37 hc x1 x2 x3    σ2 _ hf hρ
    · have hf := ifn hq hf
      refine z_iload_n hc d_X_sheet_12 2 rfl ?_
      refine z_bipush (v := (iI 8)) hc d_X_sheet_13 (by decide) ?_
      refine z_icmp_eq (tgt := 37) hc d_X_sheet_15 (by decide) (fun hq => ?_) (fun hq => ?_)
      · have hf := ifp hq hf
        refine z_sub [0, 1, 2, 3] (L' := [(0, .ref (gAd g (0, 0, 0))), (1, .int x1), (2, .int x2), (3, .int x3)]) rfl ?_
        exact sj_X_sheet_37 hc x1 x2 x3    σ2 _ hf hρ
      · have hf := ifn hq hf
        refine z_iload_n hc d_X_sheet_18 2 rfl ?_
        refine z_bipush (v := (iI 16)) hc d_X_sheet_19 (by decide) ?_
        refine z_icmp_eq (tgt := 37) hc d_X_sheet_21 (by decide) (fun hq => ?_) (fun hq => ?_)
        · have hf := ifp hq hf
          refine z_sub [0, 1, 2, 3] (L' := [(0, .ref (gAd g (0, 0, 0))), (1, .int x1), (2, .int x2), (3, .int x3)]) rfl ?_
          exact sj_X_sheet_37 hc x1 x2 x3    σ2 _ hf hρ
        · have hf := ifn hq hf
          refine z_iload_n hc d_X_sheet_24 2 rfl ?_
          refine z_bipush (v := (iI 64)) hc d_X_sheet_25 (by decide) ?_
          refine z_icmp_eq (tgt := 37) hc d_X_sheet_27 (by decide) (fun hq => ?_) (fun hq => ?_)
          · have hf := ifp hq hf
            refine z_sub [0, 1, 2, 3] (L' := [(0, .ref (gAd g (0, 0, 0))), (1, .int x1), (2, .int x2), (3, .int x3)]) rfl ?_
            exact sj_X_sheet_37 hc x1 x2 x3    σ2 _ hf hρ
          · have hf := ifn hq hf
            refine z_sub [0] (L' := [(0, .ref (gAd g (0, 0, 0)))]) rfl ?_
            exact sj_X_sheet_30 hc     σ2 _ hf hρ
theorem vl_X_266 : VL R_X 266 y_Sheet_isMissing c_Sheet_isMissing 1 (some .boolean) 0 := ⟨tb4 59 (by decide +kernel) (by decide +kernel), tb4 60 (by decide +kernel) (by decide +kernel), tb4 61 (by decide +kernel) (by decide +kernel), tb1 11 (by decide +kernel) (by decide +kernel), k_Sheet_isMissing, by decide, by decide, by decide +kernel, by decide⟩
theorem cz_X_266 {x : Cx} {g : Gv} {cc : ByteArray} {nL d pc : Nat} {ret : Option FieldType} {ρ : Option Value × Sg} {L : List (Nat × Value)} {st : List Value} {σ : Sg} (hc : Zc x g cc R_X nL ret d) (hd : decode cc pc = .ok (.invokevirtual 266, 3)) (hdd : 1 ≤ d) {w0 : Nat} (hv0 : w0 < 4) {v : Int32} {σ1 : Sg} (hf : f_Sheet_isMissing w0 σ = some (v, σ1)) (hst : (st.map (fun v => v.category)).sum ≤ 8) (k : Z x g nL ρ (pc + 3) L (.int v :: st) σ1) : Z x g nL ρ pc L (.ref (gAd g (3, w0, 0)) :: st) σ := z_callV (ci := 5) (As := []) hc hd vl_X_266 hdd (3, w0, 0) (dm_Sheet hv0) rfl rfl (ok_Sheet_isMissing g w0 hv0 σ (v, σ1) hf) rfl rfl hst rfl k
theorem vl_X_274 : VL R_X 274 y_Sheet_putNumber c_Sheet_putNumber 4 none 2 := ⟨tb4 64 (by decide +kernel) (by decide +kernel), tb4 65 (by decide +kernel) (by decide +kernel), tb4 66 (by decide +kernel) (by decide +kernel), tb1 11 (by decide +kernel) (by decide +kernel), k_Sheet_putNumber, by decide, by decide, by decide +kernel, by decide⟩
theorem cz_X_274 {x : Cx} {g : Gv} {cc : ByteArray} {nL d pc : Nat} {ret : Option FieldType} {ρ : Option Value × Sg} {L : List (Nat × Value)} {st : List Value} {σ : Sg} (hc : Zc x g cc R_X nL ret d) (hd : decode cc pc = .ok (.invokevirtual 274, 3)) (hdd : 1 ≤ d) {w0 : Nat} {x1 : Int32} {x2 : Int64} (hv0 : w0 < 4) {v : Unit} {σ1 : Sg} (hf : f_Sheet_putNumber w0 x1 x2 σ = some (v, σ1)) (hst : (st.map (fun v => v.category)).sum ≤ 8) (k : Z x g nL ρ (pc + 3) L (st) σ1) : Z x g nL ρ pc L (.long x2 :: .int x1 :: .ref (gAd g (3, w0, 0)) :: st) σ := z_callV (ci := 5) (As := [.int x1, .long x2]) hc hd vl_X_274 hdd (3, w0, 0) (dm_Sheet hv0) rfl rfl (ok_Sheet_putNumber g w0 x1 x2 hv0 σ (v, σ1) hf) rfl rfl hst rfl k
def f_X_write (x1 : Int32) (x2 : Int32) (x3 : Int64) (σ : Sg) : Option (Int64 × Sg) :=
  b2 (f_X_isSheet x1 σ) (fun v1 σ2 => (if v1 = (iI 0) then b2 (f_X_found (iI (-1000000001)) σ2) (fun v23 σ24 => some ((v23 : Int32).toInt64, σ24)) else Option.bind (rd x1 4) (fun j4 => b2 (f_Sheet_isMissing j4 σ2) (fun v6 σ7 => (if v6 = (iI 0) then b2 (f_X_within x2 (iI 0) ((σ7.1 3 j4 0 1) - (iI 1)) σ7) (fun v9 σ10 => (if v9 = (iI 0) then b2 (f_X_found (iI (-1000000001)) σ10) (fun v17 σ18 => some ((v17 : Int32).toInt64, σ18)) else Option.bind (rd x2 40) (fun j12 => b2 (f_Sheet_putNumber j4 x2 x3 σ10) (fun v14 σ15 => some (σ10.2.1 17 j4 0 j12, σ15))))) else b2 (f_X_found (iI (-1000000006)) σ7) (fun v20 σ21 => some ((v20 : Int32).toInt64, σ21)))))))
theorem ok_X_write (g : Gv) (x1 : Int32) (x2 : Int32) (x3 : Int64) (σ : Sg) (r : Int64 × Sg) (hf : f_X_write x1 x2 x3 σ = some r) : Ok g y_X_write c_X_write 8 (some .long) 2 [.ref (gAd g (0, 0, 0)), .int x1, .int x2, .long x3] σ (some (.long r.1), r.2) := by
  unfold f_X_write at hf
  refine Ok.of [(0, .ref (gAd g (0, 0, 0))), (1, .int x1), (2, .int x2), (3, .long x3)] (by decide) (Nat.le_of_ble_eq_true rfl) rfl ?_
  intro x hc
  have hc : Zc x g c_X_write R_X 8 (some .long) 2 := hc
  obtain ⟨ρ, hρ⟩ : ∃ ρ : Option Value × Sg, ρ = (some (.long r.1), r.2) := ⟨_, rfl⟩
  rw [← hρ]
  refine z_aload_n hc d_X_write_0 0 rfl ?_
  refine z_iload_n hc d_X_write_1 1 rfl ?_
  obtain ⟨v1, σ2, h3, hf⟩ := bd2 hf
  refine cz_X_258 hc d_X_write_2 (by decide)  h3 (Nat.le_of_ble_eq_true rfl) ?_
  refine z_if_ne (tgt := 16) hc d_X_write_5 (by decide) (fun hq => ?_) (fun hq => ?_)
  · have hf := ifn hq hf
    refine z_aload_n hc d_X_write_16 0 rfl ?_
    refine gf_X_76 hc d_X_write_17  ?_
    refine z_iload_n hc d_X_write_20 1 rfl ?_
    obtain ⟨j4, hj5, hf⟩ := bd hf
    refine ald_sheets hc d_X_write_21  hj5 ?_
    refine z_astore (L' := [(5, .ref (gAd g (3, j4, 0))), (0, .ref (gAd g (0, 0, 0))), (1, .int x1), (2, .int x2), (3, .long x3)]) hc d_X_write_22 (by decide) rfl ?_
    refine z_aload hc d_X_write_24 0 rfl ?_
    obtain ⟨v6, σ7, h8, hf⟩ := bd2 hf
    refine cz_X_266 hc d_X_write_26 (by decide) (rd_lt hj5) h8 (Nat.le_of_ble_eq_true rfl) ?_
    refine z_if_eq (tgt := 41) hc d_X_write_29 (by decide) (fun hq => ?_) (fun hq => ?_)
    · have hf := ifp hq hf
      refine z_iload_n hc d_X_write_41 3 rfl ?_
      refine z_iconst (v := (iI 0)) hc d_X_write_42 (by decide) ?_
      refine z_aload hc d_X_write_43 0 rfl ?_
      refine gf_X_265 hc d_X_write_45 (rd_lt hj5) ?_
      refine z_iconst (v := (iI 1)) hc d_X_write_48 (by decide) ?_
      refine z_isub hc d_X_write_49 ?_
      obtain ⟨v9, σ10, h11, hf⟩ := bd2 hf
      refine cz_X_85 hc d_X_write_50 (by decide)  h11 (Nat.le_of_ble_eq_true rfl) ?_
      refine z_if_ne (tgt := 64) hc d_X_write_53 (by decide) (fun hq => ?_) (fun hq => ?_)
      · have hf := ifn hq hf
        refine z_aload hc d_X_write_64 0 rfl ?_
        refine gf_X_270 hc d_X_write_66 (rd_lt hj5) ?_
        refine z_iload_n hc d_X_write_69 3 rfl ?_
        obtain ⟨j12, hj13, hf⟩ := bd hf
        refine ald_numbers hc d_X_write_70 (rd_lt hj5) hj13 ?_
        refine z_lstore (L' := [(6, .long (σ10.2.1 17 j4 0 j12)), (5, .ref (gAd g (3, j4, 0))), (0, .ref (gAd g (0, 0, 0))), (1, .int x1), (2, .int x2), (3, .long x3)]) hc d_X_write_71 (by decide) rfl ?_
        refine z_aload hc d_X_write_73 1 rfl ?_
        refine z_iload_n hc d_X_write_75 4 rfl ?_
        refine z_lload_n hc d_X_write_76 5 rfl ?_
        obtain ⟨v14, σ15, h16, hf⟩ := bd2 hf
        refine cz_X_274 hc d_X_write_77 (by decide) (rd_lt hj5) h16 (Nat.le_of_ble_eq_true rfl) ?_
        refine z_lload hc d_X_write_80 0 rfl ?_
        exact z_lret hc d_X_write_82 (rL hf hρ)
      · have hf := ifp hq hf
        refine z_aload_n hc d_X_write_56 1 rfl ?_
        refine z_ldc (v := (iI (-1000000001))) hc co_X_89 d_X_write_57 ?_
        obtain ⟨v17, σ18, h19, hf⟩ := bd2 hf
        refine cz_X_90 hc d_X_write_59 (by decide)  h19 (Nat.le_of_ble_eq_true rfl) ?_
        refine z_i2l hc d_X_write_62 ?_
        exact z_lret hc d_X_write_63 (rL hf hρ)
    · have hf := ifn hq hf
      refine z_aload_n hc d_X_write_32 1 rfl ?_
      refine z_ldcw (v := (iI (-1000000006))) hc co_X_269 d_X_write_33 ?_
      obtain ⟨v20, σ21, h22, hf⟩ := bd2 hf
      refine cz_X_90 hc d_X_write_36 (by decide)  h22 (Nat.le_of_ble_eq_true rfl) ?_
      refine z_i2l hc d_X_write_39 ?_
      exact z_lret hc d_X_write_40 (rL hf hρ)
  · have hf := ifp hq hf
    refine z_aload_n hc d_X_write_8 0 rfl ?_
    refine z_ldc (v := (iI (-1000000001))) hc co_X_89 d_X_write_9 ?_
    obtain ⟨v23, σ24, h25, hf⟩ := bd2 hf
    refine cz_X_90 hc d_X_write_11 (by decide)  h25 (Nat.le_of_ble_eq_true rfl) ?_
    refine z_i2l hc d_X_write_14 ?_
    exact z_lret hc d_X_write_15 (rL hf hρ)
theorem vl_X_281 : VL R_X 281 y_Sheet_hasRow c_Sheet_hasRow 3 (some .boolean) 2 := ⟨tb4 72 (by decide +kernel) (by decide +kernel), tb4 73 (by decide +kernel) (by decide +kernel), tb4 74 (by decide +kernel) (by decide +kernel), tb1 11 (by decide +kernel) (by decide +kernel), k_Sheet_hasRow, by decide, by decide, by decide +kernel, by decide⟩
theorem cz_X_281 {x : Cx} {g : Gv} {cc : ByteArray} {nL d pc : Nat} {ret : Option FieldType} {ρ : Option Value × Sg} {L : List (Nat × Value)} {st : List Value} {σ : Sg} (hc : Zc x g cc R_X nL ret d) (hd : decode cc pc = .ok (.invokevirtual 281, 3)) (hdd : 1 ≤ d) {w0 : Nat} {x1 : Int32} {x2 : Int32} (hv0 : w0 < 4) {v : Int32} {σ1 : Sg} (hf : f_Sheet_hasRow w0 x1 x2 σ = some (v, σ1)) (hst : (st.map (fun v => v.category)).sum ≤ 8) (k : Z x g nL ρ (pc + 3) L (.int v :: st) σ1) : Z x g nL ρ pc L (.int x2 :: .int x1 :: .ref (gAd g (3, w0, 0)) :: st) σ := z_callV (ci := 5) (As := [.int x1, .int x2]) hc hd vl_X_281 hdd (3, w0, 0) (dm_Sheet hv0) rfl rfl (ok_Sheet_hasRow g w0 x1 x2 hv0 σ (v, σ1) hf) rfl rfl hst rfl k
def j_X_copy_16 (σ : Sg) : Option (Int32 × Sg) :=
  b2 (f_X_found (iI (-1000000001)) σ) (fun v4 σ5 => some (v4, σ5))
theorem sj_X_copy_16 {x : Cx} {g : Gv} {ρ : Option Value × Sg} (hc : Zc x g c_X_copy R_X 8 (some .int) 2) (σ : Sg) (r : Int32 × Sg) (hf : j_X_copy_16 σ = some r) (hρ : ρ = (some (.int r.1), r.2)) : Z x g 8 ρ 16 [(0, .ref (gAd g (0, 0, 0)))] [] σ := by
  unfold j_X_copy_16 at hf
  refine z_aload_n hc d_X_copy_16 0 rfl ?_
  refine z_ldc (v := (iI (-1000000001))) hc co_X_89 d_X_copy_17 ?_
  obtain ⟨v4, σ5, h6, hf⟩ := bd2 hf
  refine cz_X_90 hc d_X_copy_19 (by decide)  h6 (Nat.le_of_ble_eq_true rfl) ?_
  exact z_iret hc d_X_copy_22 (rI hf hρ)
def j_X_copy_55 (σ : Sg) : Option (Int32 × Sg) :=
  b2 (f_X_found (iI (-1000000006)) σ) (fun v17 σ18 => some (v17, σ18))
theorem sj_X_copy_55 {x : Cx} {g : Gv} {ρ : Option Value × Sg} (hc : Zc x g c_X_copy R_X 8 (some .int) 2) (σ : Sg) (r : Int32 × Sg) (hf : j_X_copy_55 σ = some r) (hρ : ρ = (some (.int r.1), r.2)) : Z x g 8 ρ 55 [(0, .ref (gAd g (0, 0, 0)))] [] σ := by
  unfold j_X_copy_55 at hf
  refine z_aload_n hc d_X_copy_55 0 rfl ?_
  refine z_ldcw (v := (iI (-1000000006))) hc co_X_269 d_X_copy_56 ?_
  obtain ⟨v17, σ18, h19, hf⟩ := bd2 hf
  refine cz_X_90 hc d_X_copy_59 (by decide)  h19 (Nat.le_of_ble_eq_true rfl) ?_
  exact z_iret hc d_X_copy_62 (rI hf hρ)
def j_X_copy_106 (σ : Sg) : Option (Int32 × Sg) :=
  b2 (f_X_found (iI (-1000000001)) σ) (fun v26 σ27 => some (v26, σ27))
theorem sj_X_copy_106 {x : Cx} {g : Gv} {ρ : Option Value × Sg} (hc : Zc x g c_X_copy R_X 8 (some .int) 2) (σ : Sg) (r : Int32 × Sg) (hf : j_X_copy_106 σ = some r) (hρ : ρ = (some (.int r.1), r.2)) : Z x g 8 ρ 106 [(0, .ref (gAd g (0, 0, 0)))] [] σ := by
  unfold j_X_copy_106 at hf
  refine z_aload_n hc d_X_copy_106 0 rfl ?_
  refine z_ldc (v := (iI (-1000000001))) hc co_X_89 d_X_copy_107 ?_
  obtain ⟨v26, σ27, h28, hf⟩ := bd2 hf
  refine cz_X_90 hc d_X_copy_109 (by decide)  h28 (Nat.le_of_ble_eq_true rfl) ?_
  exact z_iret hc d_X_copy_112 (rI hf hρ)
def f_X_copy (x1 : Int32) (x2 : Int32) (x3 : Int32) (x4 : Int32) (x5 : Int32) (σ : Sg) : Option (Int32 × Sg) :=
  b2 (f_X_isSheet x1 σ) (fun v1 σ2 => (if v1 = (iI 0) then j_X_copy_16   σ2 else b2 (f_X_isSheet x3 σ2) (fun v7 σ8 => (if v7 = (iI 0) then j_X_copy_16   σ8 else Option.bind (rd x1 4) (fun j10 => Option.bind (rd x3 4) (fun j12 => b2 (f_Sheet_isMissing j10 σ8) (fun v14 σ15 => (if v14 = (iI 0) then b2 (f_Sheet_isMissing j12 σ15) (fun v20 σ21 => (if v20 = (iI 0) then (if (σ21.1 3 j10 0 0) = (σ21.1 3 j12 0 0) then b2 (f_Sheet_hasRow j10 x2 x5 σ21) (fun v23 σ24 => (if v23 = (iI 0) then j_X_copy_106   σ24 else b2 (f_Sheet_hasRow j12 x4 x5 σ24) (fun v29 σ30 => (if v29 = (iI 0) then j_X_copy_106   σ30 else Option.bind (cpOk x2 x4 x5 40 40) (fun q32 => some (x5, roL σ30 17 j12 0 (va_cpy (σ30.2.1 17 j10 0) (σ30.2.1 17 j12 0) q32.1 q32.2.1 q32.2.2))))))) else b2 (f_X_found (iI (-1000000003)) σ21) (fun v34 σ35 => some (v34, σ35))) else j_X_copy_55   σ21)) else j_X_copy_55   σ15))))))))
theorem ok_X_copy (g : Gv) (x1 : Int32) (x2 : Int32) (x3 : Int32) (x4 : Int32) (x5 : Int32) (σ : Sg) (r : Int32 × Sg) (hf : f_X_copy x1 x2 x3 x4 x5 σ = some r) : Ok g y_X_copy c_X_copy 8 (some .int) 2 [.ref (gAd g (0, 0, 0)), .int x1, .int x2, .int x3, .int x4, .int x5] σ (some (.int r.1), r.2) := by
  unfold f_X_copy at hf
  refine Ok.of [(0, .ref (gAd g (0, 0, 0))), (1, .int x1), (2, .int x2), (3, .int x3), (4, .int x4), (5, .int x5)] (by decide) (Nat.le_of_ble_eq_true rfl) rfl ?_
  intro x hc
  have hc : Zc x g c_X_copy R_X 8 (some .int) 2 := hc
  obtain ⟨ρ, hρ⟩ : ∃ ρ : Option Value × Sg, ρ = (some (.int r.1), r.2) := ⟨_, rfl⟩
  rw [← hρ]
  refine z_aload_n hc d_X_copy_0 0 rfl ?_
  refine z_iload_n hc d_X_copy_1 1 rfl ?_
  obtain ⟨v1, σ2, h3, hf⟩ := bd2 hf
  refine cz_X_258 hc d_X_copy_2 (by decide)  h3 (Nat.le_of_ble_eq_true rfl) ?_
  refine z_if_eq (tgt := 16) hc d_X_copy_5 (by decide) (fun hq => ?_) (fun hq => ?_)
  · have hf := ifp hq hf
    refine z_sub [0] (L' := [(0, .ref (gAd g (0, 0, 0)))]) rfl ?_
    exact sj_X_copy_16 hc     σ2 _ hf hρ
  · have hf := ifn hq hf
    refine z_aload_n hc d_X_copy_8 0 rfl ?_
    refine z_iload_n hc d_X_copy_9 3 rfl ?_
    obtain ⟨v7, σ8, h9, hf⟩ := bd2 hf
    refine cz_X_258 hc d_X_copy_10 (by decide)  h9 (Nat.le_of_ble_eq_true rfl) ?_
    refine z_if_ne (tgt := 23) hc d_X_copy_13 (by decide) (fun hq => ?_) (fun hq => ?_)
    · have hf := ifn hq hf
      refine z_aload_n hc d_X_copy_23 0 rfl ?_
      refine gf_X_76 hc d_X_copy_24  ?_
      refine z_iload_n hc d_X_copy_27 1 rfl ?_
      obtain ⟨j10, hj11, hf⟩ := bd hf
      refine ald_sheets hc d_X_copy_28  hj11 ?_
      refine z_astore (L' := [(6, .ref (gAd g (3, j10, 0))), (0, .ref (gAd g (0, 0, 0))), (1, .int x1), (2, .int x2), (3, .int x3), (4, .int x4), (5, .int x5)]) hc d_X_copy_29 (by decide) rfl ?_
      refine z_aload_n hc d_X_copy_31 1 rfl ?_
      refine gf_X_76 hc d_X_copy_32  ?_
      refine z_iload_n hc d_X_copy_35 4 rfl ?_
      obtain ⟨j12, hj13, hf⟩ := bd hf
      refine ald_sheets hc d_X_copy_36  hj13 ?_
      refine z_astore (L' := [(7, .ref (gAd g (3, j12, 0))), (6, .ref (gAd g (3, j10, 0))), (0, .ref (gAd g (0, 0, 0))), (1, .int x1), (2, .int x2), (3, .int x3), (4, .int x4), (5, .int x5)]) hc d_X_copy_37 (by decide) rfl ?_
      refine z_aload hc d_X_copy_39 1 rfl ?_
      obtain ⟨v14, σ15, h16, hf⟩ := bd2 hf
      refine cz_X_266 hc d_X_copy_41 (by decide) (rd_lt hj11) h16 (Nat.le_of_ble_eq_true rfl) ?_
      refine z_if_ne (tgt := 55) hc d_X_copy_44 (by decide) (fun hq => ?_) (fun hq => ?_)
      · have hf := ifn hq hf
        refine z_sub [2] (L' := [(0, .ref (gAd g (0, 0, 0)))]) rfl ?_
        exact sj_X_copy_55 hc     σ15 _ hf hρ
      · have hf := ifp hq hf
        refine z_aload hc d_X_copy_47 0 rfl ?_
        obtain ⟨v20, σ21, h22, hf⟩ := bd2 hf
        refine cz_X_266 hc d_X_copy_49 (by decide) (rd_lt hj13) h22 (Nat.le_of_ble_eq_true rfl) ?_
        refine z_if_eq (tgt := 63) hc d_X_copy_52 (by decide) (fun hq => ?_) (fun hq => ?_)
        · have hf := ifp hq hf
          refine z_aload hc d_X_copy_63 1 rfl ?_
          refine gf_X_278 hc d_X_copy_65 (rd_lt hj11) ?_
          refine z_aload hc d_X_copy_68 0 rfl ?_
          refine gf_X_278 hc d_X_copy_70 (rd_lt hj13) ?_
          refine z_icmp_eq (tgt := 83) hc d_X_copy_73 (by decide) (fun hq => ?_) (fun hq => ?_)
          · have hf := ifp hq hf
            refine z_aload hc d_X_copy_83 1 rfl ?_
            refine z_iload_n hc d_X_copy_85 4 rfl ?_
            refine z_iload hc d_X_copy_86 7 rfl ?_
            obtain ⟨v23, σ24, h25, hf⟩ := bd2 hf
            refine cz_X_281 hc d_X_copy_88 (by decide) (rd_lt hj11) h25 (Nat.le_of_ble_eq_true rfl) ?_
            refine z_if_eq (tgt := 106) hc d_X_copy_91 (by decide) (fun hq => ?_) (fun hq => ?_)
            · have hf := ifp hq hf
              refine z_sub [2] (L' := [(0, .ref (gAd g (0, 0, 0)))]) rfl ?_
              exact sj_X_copy_106 hc     σ24 _ hf hρ
            · have hf := ifn hq hf
              refine z_aload hc d_X_copy_94 0 rfl ?_
              refine z_iload hc d_X_copy_96 6 rfl ?_
              refine z_iload hc d_X_copy_98 7 rfl ?_
              obtain ⟨v29, σ30, h31, hf⟩ := bd2 hf
              refine cz_X_281 hc d_X_copy_100 (by decide) (rd_lt hj13) h31 (Nat.le_of_ble_eq_true rfl) ?_
              refine z_if_ne (tgt := 113) hc d_X_copy_103 (by decide) (fun hq => ?_) (fun hq => ?_)
              · have hf := ifn hq hf
                refine z_aload hc d_X_copy_113 1 rfl ?_
                refine gf_X_270 hc d_X_copy_115 (rd_lt hj11) ?_
                refine z_iload_n hc d_X_copy_118 4 rfl ?_
                refine z_aload hc d_X_copy_119 0 rfl ?_
                refine gf_X_270 hc d_X_copy_121 (rd_lt hj13) ?_
                refine z_iload hc d_X_copy_124 6 rfl ?_
                refine z_iload hc d_X_copy_126 7 rfl ?_
                obtain ⟨q32, hq33, hf⟩ := bd hf
                refine cp_numbers hc d_X_copy_128 al_X_284 (by decide) (Nat.le_of_ble_eq_true rfl) (rd_lt hj11) (rd_lt hj13) hq33 ?_
                refine z_iload hc d_X_copy_131 7 rfl ?_
                exact z_iret hc d_X_copy_133 (rI hf hρ)
              · have hf := ifp hq hf
                refine z_sub [2] (L' := [(0, .ref (gAd g (0, 0, 0)))]) rfl ?_
                exact sj_X_copy_106 hc     σ30 _ hf hρ
          · have hf := ifn hq hf
            refine z_aload_n hc d_X_copy_76 2 rfl ?_
            refine z_ldc (v := (iI (-1000000003))) hc co_X_177 d_X_copy_77 ?_
            obtain ⟨v34, σ35, h36, hf⟩ := bd2 hf
            refine cz_X_90 hc d_X_copy_79 (by decide)  h36 (Nat.le_of_ble_eq_true rfl) ?_
            exact z_iret hc d_X_copy_82 (rI hf hρ)
        · have hf := ifn hq hf
          refine z_sub [2] (L' := [(0, .ref (gAd g (0, 0, 0)))]) rfl ?_
          exact sj_X_copy_55 hc     σ21 _ hf hρ
    · have hf := ifp hq hf
      refine z_sub [0] (L' := [(0, .ref (gAd g (0, 0, 0)))]) rfl ?_
      exact sj_X_copy_16 hc     σ8 _ hf hρ
def f_X_sheetFinding (x1 : Int32) (σ : Sg) : Option (Int32 × Sg) :=
  b2 (f_X_isSheet x1 σ) (fun v1 σ2 => (if v1 = (iI 0) then some ((iI (-1000000001)), σ2) else Option.bind (rd x1 4) (fun j4 => b2 (f_Sheet_isMissing j4 σ2) (fun v6 σ7 => (if v6 = (iI 0) then some ((iI 0), σ7) else some ((iI (-1000000006)), σ7))))))
theorem ok_X_sheetFinding (g : Gv) (x1 : Int32) (σ : Sg) (r : Int32 × Sg) (hf : f_X_sheetFinding x1 σ = some r) : Ok g y_X_sheetFinding c_X_sheetFinding 2 (some .int) 2 [.ref (gAd g (0, 0, 0)), .int x1] σ (some (.int r.1), r.2) := by
  unfold f_X_sheetFinding at hf
  refine Ok.of [(0, .ref (gAd g (0, 0, 0))), (1, .int x1)] (by decide) (Nat.le_of_ble_eq_true rfl) rfl ?_
  intro x hc
  have hc : Zc x g c_X_sheetFinding R_X 2 (some .int) 2 := hc
  obtain ⟨ρ, hρ⟩ : ∃ ρ : Option Value × Sg, ρ = (some (.int r.1), r.2) := ⟨_, rfl⟩
  rw [← hρ]
  refine z_aload_n hc d_X_sheetFinding_0 0 rfl ?_
  refine z_iload_n hc d_X_sheetFinding_1 1 rfl ?_
  obtain ⟨v1, σ2, h3, hf⟩ := bd2 hf
  refine cz_X_258 hc d_X_sheetFinding_2 (by decide)  h3 (Nat.le_of_ble_eq_true rfl) ?_
  refine z_if_ne (tgt := 11) hc d_X_sheetFinding_5 (by decide) (fun hq => ?_) (fun hq => ?_)
  · have hf := ifn hq hf
    refine z_aload_n hc d_X_sheetFinding_11 0 rfl ?_
    refine gf_X_76 hc d_X_sheetFinding_12  ?_
    refine z_iload_n hc d_X_sheetFinding_15 1 rfl ?_
    obtain ⟨j4, hj5, hf⟩ := bd hf
    refine ald_sheets hc d_X_sheetFinding_16  hj5 ?_
    obtain ⟨v6, σ7, h8, hf⟩ := bd2 hf
    refine cz_X_266 hc d_X_sheetFinding_17 (by decide) (rd_lt hj5) h8 (Nat.le_of_ble_eq_true rfl) ?_
    refine z_if_eq (tgt := 29) hc d_X_sheetFinding_20 (by decide) (fun hq => ?_) (fun hq => ?_)
    · have hf := ifp hq hf
      refine z_iconst (v := (iI 0)) hc d_X_sheetFinding_29 (by decide) ?_
      exact z_iret hc d_X_sheetFinding_30 (rI hf hρ)
    · have hf := ifn hq hf
      refine z_ldcw (v := (iI (-1000000006))) hc co_X_269 d_X_sheetFinding_23 ?_
      refine z_goto (tgt := 30) hc d_X_sheetFinding_26 (by decide) ?_
      exact z_iret hc d_X_sheetFinding_30 (rI hf hρ)
  · have hf := ifp hq hf
    refine z_ldc (v := (iI (-1000000001))) hc co_X_89 d_X_sheetFinding_8 ?_
    exact z_iret hc d_X_sheetFinding_10 (rI hf hρ)
theorem vl_X_290 : VL R_X 290 y_X_sheetFinding c_X_sheetFinding 2 (some .int) 1 := ⟨tb4 81 (by decide +kernel) (by decide +kernel), tb4 83 (by decide +kernel) (by decide +kernel), tbp 7 (by decide +kernel), tb1 1 (by decide +kernel) (by decide +kernel), k_X_sheetFinding, by decide, by decide, by decide +kernel, by decide⟩
theorem cz_X_290 {x : Cx} {g : Gv} {cc : ByteArray} {nL d pc : Nat} {ret : Option FieldType} {ρ : Option Value × Sg} {L : List (Nat × Value)} {st : List Value} {σ : Sg} (hc : Zc x g cc R_X nL ret d) (hd : decode cc pc = .ok (.invokevirtual 290, 3)) (hdd : 3 ≤ d) {x1 : Int32} {v : Int32} {σ1 : Sg} (hf : f_X_sheetFinding x1 σ = some (v, σ1)) (hst : (st.map (fun v => v.category)).sum ≤ 8) (k : Z x g nL ρ (pc + 3) L (.int v :: st) σ1) : Z x g nL ρ pc L (.int x1 :: .ref (gAd g (0, 0, 0)) :: st) σ := z_callV (ci := 10) (As := [.int x1]) hc hd vl_X_290 hdd (0, 0, 0) (dm_X) rfl rfl (ok_X_sheetFinding g x1 σ (v, σ1) hf) rfl rfl hst rfl k
def b_X_lays_29 (w3 : Nat) (x4 : Int32) (x5 : Int32) (σ : Sg) : Option ((Int32 × Int32 × Sg) ⊕ (Int32 × Sg)) :=
  (if (σ.1 3 w3 0 1) ≤ x5 then some (.inr (x4, σ)) else (if (σ.1 1 0 0 0) ≤ x5 then some (.inr (x4, σ)) else Option.bind (rd x5 40) (fun j6 => (if (lg_cmp (σ.2.1 17 w3 0 j6) (lI 0)) < (iI 0) then some (.inl (x4, x5 + (iI 1), σ)) else (if (iI 0) < (lg_cmp (σ.2.1 17 w3 0 j6) (lI 99)) then some (.inl (x4, x5 + (iI 1), σ)) else Option.bind (rd x5 8) (fun j8 => some (.inl (x4 + (iI 1), x5 + (iI 1), upI σ 2 0 j8 3 ((σ.2.1 17 w3 0 j6 : Int64).toInt32)))))))))
theorem sb_X_lays_29 {x : Cx} {g : Gv} {ρ : Option Value × Sg} (hc : Zc x g c_X_lays R_X 8 (some .int) 3) (w3 : Nat) (hv3 : w3 < 4) (x4 : Int32) (x5 : Int32) (σ : Sg) (r : (Int32 × Int32 × Sg) ⊕ (Int32 × Sg)) (hf : b_X_lays_29 w3 x4 x5 σ = some r) (hi : ∀ a', r = .inl a' → Z x g 8 ρ 29 [(0, .ref (gAd g (0, 0, 0))), (3, .ref (gAd g (3, w3, 0))), (4, .int a'.1), (5, .int a'.2.1)] [] a'.2.2) (he0 : ∀ b, r = .inr b → Z x g 8 ρ 100 [(4, .int b.1)] [] b.2) : Z x g 8 ρ 29 [(0, .ref (gAd g (0, 0, 0))), (3, .ref (gAd g (3, w3, 0))), (4, .int x4), (5, .int x5)] [] σ := by
  unfold b_X_lays_29 at hf
  refine z_iload hc d_X_lays_29 3 rfl ?_
  refine z_aload_n hc d_X_lays_31 1 rfl ?_
  refine gf_X_265 hc d_X_lays_32 hv3 ?_
  refine z_icmp_ge (tgt := 100) hc d_X_lays_35 (by decide) (fun hq => ?_) (fun hq => ?_)
  · have hf := ifp hq hf
    refine z_sub [2] (L' := [(4, .int x4)]) rfl ?_
    exact he0 (x4, σ) (Option.some.inj hf).symm
  · have hf := ifn hq hf
    refine z_iload hc d_X_lays_38 3 rfl ?_
    refine z_aload_n hc d_X_lays_40 0 rfl ?_
    refine gf_X_50 hc d_X_lays_41  ?_
    refine gf_X_235 hc d_X_lays_44 (by decide) ?_
    refine z_icmp_ge (tgt := 100) hc d_X_lays_47 (by decide) (fun hq => ?_) (fun hq => ?_)
    · have hf := ifp hq hf
      refine z_sub [2] (L' := [(4, .int x4)]) rfl ?_
      exact he0 (x4, σ) (Option.some.inj hf).symm
    · have hf := ifn hq hf
      refine z_aload_n hc d_X_lays_50 1 rfl ?_
      refine gf_X_270 hc d_X_lays_51 hv3 ?_
      refine z_iload hc d_X_lays_54 3 rfl ?_
      obtain ⟨j6, hj7, hf⟩ := bd hf
      refine ald_numbers hc d_X_lays_56 hv3 hj7 ?_
      refine z_lstore (L' := [(6, .long (σ.2.1 17 w3 0 j6)), (0, .ref (gAd g (0, 0, 0))), (3, .ref (gAd g (3, w3, 0))), (4, .int x4), (5, .int x5)]) hc d_X_lays_57 (by decide) rfl ?_
      refine z_lload hc d_X_lays_59 0 rfl ?_
      refine z_lconst (v := (lI 0)) hc d_X_lays_61 (by decide) ?_
      refine z_lcmp hc d_X_lays_62 ?_
      refine z_if_lt (tgt := 94) hc d_X_lays_63 (by decide) (fun hq => ?_) (fun hq => ?_)
      · have hf := ifp hq hf
        refine z_iinc (v := x5 + (iI 1)) (L' := [(5, .int (x5 + (iI 1))), (6, .long (σ.2.1 17 w3 0 j6)), (0, .ref (gAd g (0, 0, 0))), (3, .ref (gAd g (3, w3, 0))), (4, .int x4)]) hc d_X_lays_94 4 rfl rfl (by decide) rfl ?_
        refine z_goto (tgt := 29) hc d_X_lays_97 (by decide) ?_
        refine z_sub [2, 3, 4, 0] (L' := [(0, .ref (gAd g (0, 0, 0))), (3, .ref (gAd g (3, w3, 0))), (4, .int x4), (5, .int (x5 + (iI 1)))]) rfl ?_
        exact hi (x4, x5 + (iI 1), σ) (Option.some.inj hf).symm
      · have hf := ifn hq hf
        refine z_lload hc d_X_lays_66 0 rfl ?_
        refine z_ldc2 (v := (lI 99)) hc cl_X_293 d_X_lays_68 ?_
        refine z_lcmp hc d_X_lays_71 ?_
        refine z_if_gt (tgt := 94) hc d_X_lays_72 (by decide) (fun hq => ?_) (fun hq => ?_)
        · have hf := ifp hq hf
          refine z_iinc (v := x5 + (iI 1)) (L' := [(5, .int (x5 + (iI 1))), (6, .long (σ.2.1 17 w3 0 j6)), (0, .ref (gAd g (0, 0, 0))), (3, .ref (gAd g (3, w3, 0))), (4, .int x4)]) hc d_X_lays_94 4 rfl rfl (by decide) rfl ?_
          refine z_goto (tgt := 29) hc d_X_lays_97 (by decide) ?_
          refine z_sub [2, 3, 4, 0] (L' := [(0, .ref (gAd g (0, 0, 0))), (3, .ref (gAd g (3, w3, 0))), (4, .int x4), (5, .int (x5 + (iI 1)))]) rfl ?_
          exact hi (x4, x5 + (iI 1), σ) (Option.some.inj hf).symm
        · have hf := ifn hq hf
          refine z_aload_n hc d_X_lays_75 1 rfl ?_
          refine gf_X_50 hc d_X_lays_76  ?_
          refine gf_X_135 hc d_X_lays_79 (by decide) ?_
          refine z_iload hc d_X_lays_82 4 rfl ?_
          obtain ⟨j8, hj9, hf⟩ := bd hf
          refine ald_rugs hc d_X_lays_84 (by decide) hj9 ?_
          refine z_lload hc d_X_lays_85 0 rfl ?_
          refine z_l2i hc d_X_lays_87 ?_
          refine pf_X_178 hc d_X_lays_88 (okR_of (by decide) (rd_lt hj9)) ?_
          refine z_iinc (v := x4 + (iI 1)) (L' := [(4, .int (x4 + (iI 1))), (6, .long (σ.2.1 17 w3 0 j6)), (0, .ref (gAd g (0, 0, 0))), (3, .ref (gAd g (3, w3, 0))), (5, .int x5)]) hc d_X_lays_91 3 rfl rfl (by decide) rfl ?_
          refine z_iinc (v := x5 + (iI 1)) (L' := [(5, .int (x5 + (iI 1))), (4, .int (x4 + (iI 1))), (6, .long (σ.2.1 17 w3 0 j6)), (0, .ref (gAd g (0, 0, 0))), (3, .ref (gAd g (3, w3, 0)))]) hc d_X_lays_94 4 rfl rfl (by decide) rfl ?_
          refine z_goto (tgt := 29) hc d_X_lays_97 (by decide) ?_
          refine z_sub [3, 4, 1, 0] (L' := [(0, .ref (gAd g (0, 0, 0))), (3, .ref (gAd g (3, w3, 0))), (4, .int (x4 + (iI 1))), (5, .int (x5 + (iI 1)))]) rfl ?_
          exact hi (x4 + (iI 1), x5 + (iI 1), upI σ 2 0 j8 3 ((σ.2.1 17 w3 0 j6 : Int64).toInt32)) (Option.some.inj hf).symm
def f_X_lays (x1 : Int32) (σ : Sg) : Option (Int32 × Sg) :=
  b2 (f_X_sheetFinding x1 σ) (fun v1 σ2 => (if v1 = (iI 0) then Option.bind (rd x1 4) (fun j4 => Option.bind (lp (fun a => b_X_lays_29 j4 a.1 a.2.1 a.2.2) FU ((iI 0), (iI 0), σ2)) (fun b13 => some (b13.1, b13.2))) else b2 (f_X_found v1 σ2) (fun v15 σ16 => some (v15, σ16))))
theorem ok_X_lays (g : Gv) (x1 : Int32) (σ : Sg) (r : Int32 × Sg) (hf : f_X_lays x1 σ = some r) : Ok g y_X_lays c_X_lays 8 (some .int) 3 [.ref (gAd g (0, 0, 0)), .int x1] σ (some (.int r.1), r.2) := by
  unfold f_X_lays at hf
  refine Ok.of [(0, .ref (gAd g (0, 0, 0))), (1, .int x1)] (by decide) (Nat.le_of_ble_eq_true rfl) rfl ?_
  intro x hc
  have hc : Zc x g c_X_lays R_X 8 (some .int) 3 := hc
  obtain ⟨ρ, hρ⟩ : ∃ ρ : Option Value × Sg, ρ = (some (.int r.1), r.2) := ⟨_, rfl⟩
  rw [← hρ]
  refine z_aload_n hc d_X_lays_0 0 rfl ?_
  refine z_iload_n hc d_X_lays_1 1 rfl ?_
  obtain ⟨v1, σ2, h3, hf⟩ := bd2 hf
  refine cz_X_290 hc d_X_lays_2 (by decide)  h3 (Nat.le_of_ble_eq_true rfl) ?_
  refine z_istore_n (L' := [(2, .int v1), (0, .ref (gAd g (0, 0, 0))), (1, .int x1)]) hc d_X_lays_5 (by decide) rfl ?_
  refine z_iload_n hc d_X_lays_6 0 rfl ?_
  refine z_if_eq (tgt := 16) hc d_X_lays_7 (by decide) (fun hq => ?_) (fun hq => ?_)
  · have hf := ifp hq hf
    refine z_aload_n hc d_X_lays_16 1 rfl ?_
    refine gf_X_76 hc d_X_lays_17  ?_
    refine z_iload_n hc d_X_lays_20 2 rfl ?_
    obtain ⟨j4, hj5, hf⟩ := bd hf
    refine ald_sheets hc d_X_lays_21  hj5 ?_
    refine z_astore_n (L' := [(3, .ref (gAd g (3, j4, 0))), (2, .int v1), (0, .ref (gAd g (0, 0, 0))), (1, .int x1)]) hc d_X_lays_22 (by decide) rfl ?_
    refine z_iconst (v := (iI 0)) hc d_X_lays_23 (by decide) ?_
    refine z_istore (L' := [(4, .int (iI 0)), (3, .ref (gAd g (3, j4, 0))), (2, .int v1), (0, .ref (gAd g (0, 0, 0))), (1, .int x1)]) hc d_X_lays_24 (by decide) rfl ?_
    refine z_iconst (v := (iI 0)) hc d_X_lays_26 (by decide) ?_
    refine z_istore (L' := [(5, .int (iI 0)), (4, .int (iI 0)), (3, .ref (gAd g (3, j4, 0))), (2, .int v1), (0, .ref (gAd g (0, 0, 0))), (1, .int x1)]) hc d_X_lays_27 (by decide) rfl ?_
    refine z_sub [4, 2, 1, 0] (L' := [(0, .ref (gAd g (0, 0, 0))), (3, .ref (gAd g (3, j4, 0))), (4, .int (iI 0)), (5, .int (iI 0))]) rfl ?_
    obtain ⟨⟨y11, σ12⟩, hl14, hf⟩ := bd hf
    try dsimp only at hf
    refine lp_walk (α := (Int32 × Int32 × Sg)) (β := (Int32 × Sg)) (body := (fun a : (Int32 × Int32 × Sg) => b_X_lays_29 j4 a.1 a.2.1 a.2.2)) (In := (fun a : (Int32 × Int32 × Sg) => Z x g 8 ρ 29 [(0, .ref (gAd g (0, 0, 0))), (3, .ref (gAd g (3, j4, 0))), (4, .int a.1), (5, .int a.2.1)] [] a.2.2)) (Out := (fun b => Z x g 8 ρ 100 [(4, .int b.1)] [] b.2)) (fun a r hb hi ho => sb_X_lays_29 hc j4 (rd_lt hj5) a.1 a.2.1 a.2.2 r hb hi (fun b e => ho _ e)) FU ((iI 0), (iI 0), σ2) _ hl14 ?_
    dsimp only
    refine z_iload hc d_X_lays_100 0 rfl ?_
    exact z_iret hc d_X_lays_102 (rI hf hρ)
  · have hf := ifn hq hf
    refine z_aload_n hc d_X_lays_10 1 rfl ?_
    refine z_iload_n hc d_X_lays_11 0 rfl ?_
    obtain ⟨v15, σ16, h17, hf⟩ := bd2 hf
    refine cz_X_90 hc d_X_lays_12 (by decide)  h17 (Nat.le_of_ble_eq_true rfl) ?_
    exact z_iret hc d_X_lays_15 (rI hf hρ)
def f_X_sheetAndRugFinding (x1 : Int32) (x2 : Int32) (σ : Sg) : Option (Int32 × Sg) :=
  b2 (f_X_sheetFinding x1 σ) (fun v1 σ2 => (if v1 = (iI 0) then b2 (f_X_isRug x2 σ2) (fun v4 σ5 => (if v4 = (iI 0) then some ((iI (-1000000001)), σ5) else some ((iI 0), σ5))) else some (v1, σ2)))
theorem ok_X_sheetAndRugFinding (g : Gv) (x1 : Int32) (x2 : Int32) (σ : Sg) (r : Int32 × Sg) (hf : f_X_sheetAndRugFinding x1 x2 σ = some r) : Ok g y_X_sheetAndRugFinding c_X_sheetAndRugFinding 4 (some .int) 3 [.ref (gAd g (0, 0, 0)), .int x1, .int x2] σ (some (.int r.1), r.2) := by
  unfold f_X_sheetAndRugFinding at hf
  refine Ok.of [(0, .ref (gAd g (0, 0, 0))), (1, .int x1), (2, .int x2)] (by decide) (Nat.le_of_ble_eq_true rfl) rfl ?_
  intro x hc
  have hc : Zc x g c_X_sheetAndRugFinding R_X 4 (some .int) 3 := hc
  obtain ⟨ρ, hρ⟩ : ∃ ρ : Option Value × Sg, ρ = (some (.int r.1), r.2) := ⟨_, rfl⟩
  rw [← hρ]
  refine z_aload_n hc d_X_sheetAndRugFinding_0 0 rfl ?_
  refine z_iload_n hc d_X_sheetAndRugFinding_1 1 rfl ?_
  obtain ⟨v1, σ2, h3, hf⟩ := bd2 hf
  refine cz_X_290 hc d_X_sheetAndRugFinding_2 (by decide)  h3 (Nat.le_of_ble_eq_true rfl) ?_
  refine z_istore_n (L' := [(3, .int v1), (0, .ref (gAd g (0, 0, 0))), (1, .int x1), (2, .int x2)]) hc d_X_sheetAndRugFinding_5 (by decide) rfl ?_
  refine z_iload_n hc d_X_sheetAndRugFinding_6 0 rfl ?_
  refine z_if_eq (tgt := 12) hc d_X_sheetAndRugFinding_7 (by decide) (fun hq => ?_) (fun hq => ?_)
  · have hf := ifp hq hf
    refine z_aload_n hc d_X_sheetAndRugFinding_12 1 rfl ?_
    refine z_iload_n hc d_X_sheetAndRugFinding_13 3 rfl ?_
    obtain ⟨v4, σ5, h6, hf⟩ := bd2 hf
    refine cz_X_131 hc d_X_sheetAndRugFinding_14 (by decide)  h6 (Nat.le_of_ble_eq_true rfl) ?_
    refine z_if_eq (tgt := 24) hc d_X_sheetAndRugFinding_17 (by decide) (fun hq => ?_) (fun hq => ?_)
    · have hf := ifp hq hf
      refine z_ldc (v := (iI (-1000000001))) hc co_X_89 d_X_sheetAndRugFinding_24 ?_
      exact z_iret hc d_X_sheetAndRugFinding_26 (rI hf hρ)
    · have hf := ifn hq hf
      refine z_iconst (v := (iI 0)) hc d_X_sheetAndRugFinding_20 (by decide) ?_
      refine z_goto (tgt := 26) hc d_X_sheetAndRugFinding_21 (by decide) ?_
      exact z_iret hc d_X_sheetAndRugFinding_26 (rI hf hρ)
  · have hf := ifn hq hf
    refine z_iload_n hc d_X_sheetAndRugFinding_10 0 rfl ?_
    exact z_iret hc d_X_sheetAndRugFinding_11 (rI hf hρ)
theorem vl_X_295 : VL R_X 295 y_X_sheetAndRugFinding c_X_sheetAndRugFinding 4 (some .int) 2 := ⟨tb4 90 (by decide +kernel) (by decide +kernel), tb4 92 (by decide +kernel) (by decide +kernel), tbp 8 (by decide +kernel), tb1 1 (by decide +kernel) (by decide +kernel), k_X_sheetAndRugFinding, by decide, by decide, by decide +kernel, by decide⟩
theorem cz_X_295 {x : Cx} {g : Gv} {cc : ByteArray} {nL d pc : Nat} {ret : Option FieldType} {ρ : Option Value × Sg} {L : List (Nat × Value)} {st : List Value} {σ : Sg} (hc : Zc x g cc R_X nL ret d) (hd : decode cc pc = .ok (.invokevirtual 295, 3)) (hdd : 4 ≤ d) {x1 : Int32} {x2 : Int32} {v : Int32} {σ1 : Sg} (hf : f_X_sheetAndRugFinding x1 x2 σ = some (v, σ1)) (hst : (st.map (fun v => v.category)).sum ≤ 8) (k : Z x g nL ρ (pc + 3) L (.int v :: st) σ1) : Z x g nL ρ pc L (.int x2 :: .int x1 :: .ref (gAd g (0, 0, 0)) :: st) σ := z_callV (ci := 10) (As := [.int x1, .int x2]) hc hd vl_X_295 hdd (0, 0, 0) (dm_X) rfl rfl (ok_X_sheetAndRugFinding g x1 x2 σ (v, σ1) hf) rfl rfl hst rfl k
def b_X_book_44 (w4 : Nat) (x5 : Int32) (σ : Sg) : Option ((Int32 × Sg) ⊕ (Sg)) :=
  (if (σ.1 3 w4 0 1) ≤ x5 then some (.inr σ) else b2 (f_Sheet_putNumber w4 x5 ((σ.1 2 3 0 3 : Int32).toInt64) σ) (fun v11 σ12 => b2 (f_World_wetAhead 0 x5 σ12) (fun v14 σ15 => b2 (f_Rug_passDay 3 0 v14 σ15) (fun v17 σ18 => some (.inl (x5 + (iI 1), σ18))))))
theorem sb_X_book_44 {x : Cx} {g : Gv} {ρ : Option Value × Sg} (hc : Zc x g c_X_book R_X 6 (some .int) 4) (w4 : Nat) (hv4 : w4 < 4) (x5 : Int32) (σ : Sg) (r : (Int32 × Sg) ⊕ (Sg)) (hf : b_X_book_44 w4 x5 σ = some r) (hi : ∀ a', r = .inl a' → Z x g 6 ρ 44 [(0, .ref (gAd g (0, 0, 0))), (4, .ref (gAd g (3, w4, 0))), (5, .int a'.1)] [] a'.2) (he0 : ∀ b, r = .inr b → Z x g 6 ρ 91 [(4, .ref (gAd g (3, w4, 0)))] [] b) : Z x g 6 ρ 44 [(0, .ref (gAd g (0, 0, 0))), (4, .ref (gAd g (3, w4, 0))), (5, .int x5)] [] σ := by
  unfold b_X_book_44 at hf
  refine z_iload hc d_X_book_44 2 rfl ?_
  refine z_aload hc d_X_book_46 1 rfl ?_
  refine gf_X_265 hc d_X_book_48 hv4 ?_
  refine z_icmp_ge (tgt := 91) hc d_X_book_51 (by decide) (fun hq => ?_) (fun hq => ?_)
  · have hf := ifp hq hf
    refine z_sub [1] (L' := [(4, .ref (gAd g (3, w4, 0)))]) rfl ?_
    exact he0 σ (Option.some.inj hf).symm
  · have hf := ifn hq hf
    refine z_aload hc d_X_book_54 1 rfl ?_
    refine z_iload hc d_X_book_56 2 rfl ?_
    refine z_aload_n hc d_X_book_58 0 rfl ?_
    refine gf_X_63 hc d_X_book_59  ?_
    refine gf_X_178 hc d_X_book_62 okR_probe ?_
    refine z_i2l hc d_X_book_65 ?_
    obtain ⟨v11, σ12, h13, hf⟩ := bd2 hf
    refine cz_X_274 hc d_X_book_66 (by decide) hv4 h13 (Nat.le_of_ble_eq_true rfl) ?_
    refine z_aload_n hc d_X_book_69 0 rfl ?_
    refine gf_X_63 hc d_X_book_70  ?_
    refine z_aload_n hc d_X_book_73 0 rfl ?_
    refine gf_X_50 hc d_X_book_74  ?_
    refine z_iload hc d_X_book_77 2 rfl ?_
    obtain ⟨v14, σ15, h16, hf⟩ := bd2 hf
    refine cz_X_113 hc d_X_book_79 (by decide) (by decide) h16 (Nat.le_of_ble_eq_true rfl) ?_
    obtain ⟨v17, σ18, h19, hf⟩ := bd2 hf
    refine cz_X_226 hc d_X_book_82 (by decide) okR_probe h19 (Nat.le_of_ble_eq_true rfl) ?_
    refine z_iinc (v := x5 + (iI 1)) (L' := [(5, .int (x5 + (iI 1))), (0, .ref (gAd g (0, 0, 0))), (4, .ref (gAd g (3, w4, 0)))]) hc d_X_book_85 2 rfl rfl (by decide) rfl ?_
    refine z_goto (tgt := 44) hc d_X_book_88 (by decide) ?_
    refine z_sub [1, 2, 0] (L' := [(0, .ref (gAd g (0, 0, 0))), (4, .ref (gAd g (3, w4, 0))), (5, .int (x5 + (iI 1)))]) rfl ?_
    exact hi (x5 + (iI 1), σ18) (Option.some.inj hf).symm
def f_X_book (x1 : Int32) (x2 : Int32) (σ : Sg) : Option (Int32 × Sg) :=
  b2 (f_X_sheetAndRugFinding x1 x2 σ) (fun v1 σ2 => (if v1 = (iI 0) then Option.bind (rd x1 4) (fun j4 => Option.bind (rd x2 8) (fun j6 => b2 (f_Rug_become 3 0 0 j6 σ2) (fun v8 σ9 => Option.bind (lp (fun a => b_X_book_44 j4 a.1 a.2) FU ((iI 0), σ9)) (fun b22 => some (b22.1 3 j4 0 1, b22))))) else b2 (f_X_found v1 σ2) (fun v24 σ25 => some (v24, σ25))))
theorem ok_X_book (g : Gv) (x1 : Int32) (x2 : Int32) (σ : Sg) (r : Int32 × Sg) (hf : f_X_book x1 x2 σ = some r) : Ok g y_X_book c_X_book 6 (some .int) 4 [.ref (gAd g (0, 0, 0)), .int x1, .int x2] σ (some (.int r.1), r.2) := by
  unfold f_X_book at hf
  refine Ok.of [(0, .ref (gAd g (0, 0, 0))), (1, .int x1), (2, .int x2)] (by decide) (Nat.le_of_ble_eq_true rfl) rfl ?_
  intro x hc
  have hc : Zc x g c_X_book R_X 6 (some .int) 4 := hc
  obtain ⟨ρ, hρ⟩ : ∃ ρ : Option Value × Sg, ρ = (some (.int r.1), r.2) := ⟨_, rfl⟩
  rw [← hρ]
  refine z_aload_n hc d_X_book_0 0 rfl ?_
  refine z_iload_n hc d_X_book_1 1 rfl ?_
  refine z_iload_n hc d_X_book_2 2 rfl ?_
  obtain ⟨v1, σ2, h3, hf⟩ := bd2 hf
  refine cz_X_295 hc d_X_book_3 (by decide)  h3 (Nat.le_of_ble_eq_true rfl) ?_
  refine z_istore_n (L' := [(3, .int v1), (0, .ref (gAd g (0, 0, 0))), (1, .int x1), (2, .int x2)]) hc d_X_book_6 (by decide) rfl ?_
  refine z_iload_n hc d_X_book_7 0 rfl ?_
  refine z_if_eq (tgt := 17) hc d_X_book_8 (by decide) (fun hq => ?_) (fun hq => ?_)
  · have hf := ifp hq hf
    refine z_aload_n hc d_X_book_17 1 rfl ?_
    refine gf_X_76 hc d_X_book_18  ?_
    refine z_iload_n hc d_X_book_21 2 rfl ?_
    obtain ⟨j4, hj5, hf⟩ := bd hf
    refine ald_sheets hc d_X_book_22  hj5 ?_
    refine z_astore (L' := [(4, .ref (gAd g (3, j4, 0))), (3, .int v1), (0, .ref (gAd g (0, 0, 0))), (1, .int x1), (2, .int x2)]) hc d_X_book_23 (by decide) rfl ?_
    refine z_aload_n hc d_X_book_25 2 rfl ?_
    refine gf_X_63 hc d_X_book_26  ?_
    refine z_aload_n hc d_X_book_29 2 rfl ?_
    refine gf_X_50 hc d_X_book_30  ?_
    refine gf_X_135 hc d_X_book_33 (by decide) ?_
    refine z_iload_n hc d_X_book_36 4 rfl ?_
    obtain ⟨j6, hj7, hf⟩ := bd hf
    refine ald_rugs hc d_X_book_37 (by decide) hj7 ?_
    obtain ⟨v8, σ9, h10, hf⟩ := bd2 hf
    refine cz_X_212 hc d_X_book_38 (by decide) okR_probe (okR_of (by decide) (rd_lt hj7)) h10 (Nat.le_of_ble_eq_true rfl) ?_
    refine z_iconst (v := (iI 0)) hc d_X_book_41 (by decide) ?_
    refine z_istore (L' := [(5, .int (iI 0)), (4, .ref (gAd g (3, j4, 0))), (3, .int v1), (0, .ref (gAd g (0, 0, 0))), (1, .int x1), (2, .int x2)]) hc d_X_book_42 (by decide) rfl ?_
    refine z_sub [3, 1, 0] (L' := [(0, .ref (gAd g (0, 0, 0))), (4, .ref (gAd g (3, j4, 0))), (5, .int (iI 0))]) rfl ?_
    obtain ⟨σ21, hl23, hf⟩ := bd hf
    try dsimp only at hf
    refine lp_walk (α := (Int32 × Sg)) (β := (Sg)) (body := (fun a : (Int32 × Sg) => b_X_book_44 j4 a.1 a.2)) (In := (fun a : (Int32 × Sg) => Z x g 6 ρ 44 [(0, .ref (gAd g (0, 0, 0))), (4, .ref (gAd g (3, j4, 0))), (5, .int a.1)] [] a.2)) (Out := (fun b => Z x g 6 ρ 91 [(4, .ref (gAd g (3, j4, 0)))] [] b)) (fun a r hb hi ho => sb_X_book_44 hc j4 (rd_lt hj5) a.1 a.2 r hb hi (fun b e => ho _ e)) FU ((iI 0), σ9) _ hl23 ?_
    refine z_aload hc d_X_book_91 0 rfl ?_
    refine gf_X_265 hc d_X_book_93 (rd_lt hj5) ?_
    exact z_iret hc d_X_book_96 (rI hf hρ)
  · have hf := ifn hq hf
    refine z_aload_n hc d_X_book_11 1 rfl ?_
    refine z_iload_n hc d_X_book_12 0 rfl ?_
    obtain ⟨v24, σ25, h26, hf⟩ := bd2 hf
    refine cz_X_90 hc d_X_book_13 (by decide)  h26 (Nat.le_of_ble_eq_true rfl) ?_
    exact z_iret hc d_X_book_16 (rI hf hρ)
def b_X_probeWearsAs_2 (w1 : Nat) (x2 : Int32) (σ : Sg) : Option ((Int32 × Sg) ⊕ ((Sg) ⊕ (Sg))) :=
  (if (σ.1 3 w1 0 1) ≤ x2 then some (.inr (.inr σ)) else Option.bind (rd x2 40) (fun j1 => (if (lg_cmp (σ.2.1 17 w1 0 j1) ((σ.1 2 3 0 3 : Int32).toInt64)) = (iI 0) then b2 (f_World_wetAhead 0 x2 σ) (fun v3 σ4 => b2 (f_Rug_passDay 3 0 v3 σ4) (fun v6 σ7 => some (.inl (x2 + (iI 1), σ7)))) else some (.inr (.inl σ)))))
theorem sb_X_probeWearsAs_2 {x : Cx} {g : Gv} {ρ : Option Value × Sg} (hc : Zc x g c_X_probeWearsAs R_X 3 (some .boolean) 4) (w1 : Nat) (hv1 : w1 < 4) (x2 : Int32) (σ : Sg) (r : (Int32 × Sg) ⊕ ((Sg) ⊕ (Sg))) (hf : b_X_probeWearsAs_2 w1 x2 σ = some r) (hi : ∀ a', r = .inl a' → Z x g 3 ρ 2 [(0, .ref (gAd g (0, 0, 0))), (1, .ref (gAd g (3, w1, 0))), (2, .int a'.1)] [] a'.2) (he0 : ∀ b, r = .inr (.inl b) → Z x g 3 ρ 28 [] [] b) (he1 : ∀ b, r = .inr (.inr b) → Z x g 3 ρ 51 [] [] b) : Z x g 3 ρ 2 [(0, .ref (gAd g (0, 0, 0))), (1, .ref (gAd g (3, w1, 0))), (2, .int x2)] [] σ := by
  unfold b_X_probeWearsAs_2 at hf
  refine z_iload_n hc d_X_probeWearsAs_2 2 rfl ?_
  refine z_aload_n hc d_X_probeWearsAs_3 1 rfl ?_
  refine gf_X_265 hc d_X_probeWearsAs_4 hv1 ?_
  refine z_icmp_ge (tgt := 51) hc d_X_probeWearsAs_7 (by decide) (fun hq => ?_) (fun hq => ?_)
  · have hf := ifp hq hf
    refine z_sub [] (L' := []) rfl ?_
    exact he1 σ (Option.some.inj hf).symm
  · have hf := ifn hq hf
    refine z_aload_n hc d_X_probeWearsAs_10 1 rfl ?_
    refine gf_X_270 hc d_X_probeWearsAs_11 hv1 ?_
    refine z_iload_n hc d_X_probeWearsAs_14 2 rfl ?_
    obtain ⟨j1, hj2, hf⟩ := bd hf
    refine ald_numbers hc d_X_probeWearsAs_15 hv1 hj2 ?_
    refine z_aload_n hc d_X_probeWearsAs_16 0 rfl ?_
    refine gf_X_63 hc d_X_probeWearsAs_17  ?_
    refine gf_X_178 hc d_X_probeWearsAs_20 okR_probe ?_
    refine z_i2l hc d_X_probeWearsAs_23 ?_
    refine z_lcmp hc d_X_probeWearsAs_24 ?_
    refine z_if_eq (tgt := 30) hc d_X_probeWearsAs_25 (by decide) (fun hq => ?_) (fun hq => ?_)
    · have hf := ifp hq hf
      refine z_aload_n hc d_X_probeWearsAs_30 0 rfl ?_
      refine gf_X_63 hc d_X_probeWearsAs_31  ?_
      refine z_aload_n hc d_X_probeWearsAs_34 0 rfl ?_
      refine gf_X_50 hc d_X_probeWearsAs_35  ?_
      refine z_iload_n hc d_X_probeWearsAs_38 2 rfl ?_
      obtain ⟨v3, σ4, h5, hf⟩ := bd2 hf
      refine cz_X_113 hc d_X_probeWearsAs_39 (by decide) (by decide) h5 (Nat.le_of_ble_eq_true rfl) ?_
      obtain ⟨v6, σ7, h8, hf⟩ := bd2 hf
      refine cz_X_226 hc d_X_probeWearsAs_42 (by decide) okR_probe h8 (Nat.le_of_ble_eq_true rfl) ?_
      refine z_iinc (v := x2 + (iI 1)) (L' := [(2, .int (x2 + (iI 1))), (0, .ref (gAd g (0, 0, 0))), (1, .ref (gAd g (3, w1, 0)))]) hc d_X_probeWearsAs_45 2 rfl rfl (by decide) rfl ?_
      refine z_goto (tgt := 2) hc d_X_probeWearsAs_48 (by decide) ?_
      refine z_sub [1, 2, 0] (L' := [(0, .ref (gAd g (0, 0, 0))), (1, .ref (gAd g (3, w1, 0))), (2, .int (x2 + (iI 1)))]) rfl ?_
      exact hi (x2 + (iI 1), σ7) (Option.some.inj hf).symm
    · have hf := ifn hq hf
      refine z_sub [] (L' := []) rfl ?_
      exact he0 σ (Option.some.inj hf).symm
def f_X_probeWearsAs (w1 : Nat) (σ : Sg) : Option (Int32 × Sg) :=
  Option.bind (lp (fun a => b_X_probeWearsAs_2 w1 a.1 a.2) FU ((iI 0), σ)) (fun z => Sum.elim (fun b12 => some ((iI 0), b12)) (fun b13 => some ((iI 1), b13)) z)
theorem ok_X_probeWearsAs (g : Gv) (w1 : Nat) (hv1 : w1 < 4) (σ : Sg) (r : Int32 × Sg) (hf : f_X_probeWearsAs w1 σ = some r) : Ok g y_X_probeWearsAs c_X_probeWearsAs 3 (some .boolean) 4 [.ref (gAd g (0, 0, 0)), .ref (gAd g (3, w1, 0))] σ (some (.int r.1), r.2) := by
  unfold f_X_probeWearsAs at hf
  refine Ok.of [(0, .ref (gAd g (0, 0, 0))), (1, .ref (gAd g (3, w1, 0)))] (by decide) (Nat.le_of_ble_eq_true rfl) rfl ?_
  intro x hc
  have hc : Zc x g c_X_probeWearsAs R_X 3 (some .boolean) 4 := hc
  obtain ⟨ρ, hρ⟩ : ∃ ρ : Option Value × Sg, ρ = (some (.int r.1), r.2) := ⟨_, rfl⟩
  rw [← hρ]
  refine z_iconst (v := (iI 0)) hc d_X_probeWearsAs_0 (by decide) ?_
  refine z_istore_n (L' := [(2, .int (iI 0)), (0, .ref (gAd g (0, 0, 0))), (1, .ref (gAd g (3, w1, 0)))]) hc d_X_probeWearsAs_1 (by decide) rfl ?_
  refine z_sub [1, 2, 0] (L' := [(0, .ref (gAd g (0, 0, 0))), (1, .ref (gAd g (3, w1, 0))), (2, .int (iI 0))]) rfl ?_
  obtain ⟨q9, hl14, hf⟩ := bd hf
  refine lp_walk (α := (Int32 × Sg)) (β := ((Sg) ⊕ (Sg))) (body := (fun a : (Int32 × Sg) => b_X_probeWearsAs_2 w1 a.1 a.2)) (In := (fun a : (Int32 × Sg) => Z x g 3 ρ 2 [(0, .ref (gAd g (0, 0, 0))), (1, .ref (gAd g (3, w1, 0))), (2, .int a.1)] [] a.2)) (Out := (Sum.elim (fun b => Z x g 3 ρ 28 [] [] b) (fun b => Z x g 3 ρ 51 [] [] b))) (fun a r hb hi ho => sb_X_probeWearsAs_2 hc w1 hv1 a.1 a.2 r hb hi (fun b e => ho _ e) (fun b e => ho _ e)) FU ((iI 0), σ) _ hl14 ?_
  rcases q9 with σ10 | q9
  · try dsimp only [Sum.elim_inl, Sum.elim_inr] at hf
    try dsimp only [Sum.elim_inl, Sum.elim_inr]
    refine z_iconst (v := (iI 0)) hc d_X_probeWearsAs_28 (by decide) ?_
    exact z_zret hc d_X_probeWearsAs_29 (by decide) (rI hf hρ)
  try dsimp only [Sum.elim_inl, Sum.elim_inr] at hf
  try dsimp only [Sum.elim_inl, Sum.elim_inr]
  · obtain ⟨σ11, rfl⟩ : ∃ z, z = q9 := ⟨_, rfl⟩
    try dsimp only [Sum.elim_inl, Sum.elim_inr] at hf
    try dsimp only [Sum.elim_inl, Sum.elim_inr]
    refine z_iconst (v := (iI 1)) hc d_X_probeWearsAs_51 (by decide) ?_
    exact z_zret hc d_X_probeWearsAs_52 (by decide) (rI hf hρ)
theorem vl_X_298 : VL R_X 298 y_X_probeWearsAs c_X_probeWearsAs 3 (some .boolean) 1 := ⟨tb4 98 (by decide +kernel) (by decide +kernel), tb4 100 (by decide +kernel) (by decide +kernel), tbp 9 (by decide +kernel), tb1 1 (by decide +kernel) (by decide +kernel), k_X_probeWearsAs, by decide, by decide, by decide +kernel, by decide⟩
theorem cz_X_298 {x : Cx} {g : Gv} {cc : ByteArray} {nL d pc : Nat} {ret : Option FieldType} {ρ : Option Value × Sg} {L : List (Nat × Value)} {st : List Value} {σ : Sg} (hc : Zc x g cc R_X nL ret d) (hd : decode cc pc = .ok (.invokevirtual 298, 3)) (hdd : 5 ≤ d) {w1 : Nat} (hv1 : w1 < 4) {v : Int32} {σ1 : Sg} (hf : f_X_probeWearsAs w1 σ = some (v, σ1)) (hst : (st.map (fun v => v.category)).sum ≤ 8) (k : Z x g nL ρ (pc + 3) L (.int v :: st) σ1) : Z x g nL ρ pc L (.ref (gAd g (3, w1, 0)) :: .ref (gAd g (0, 0, 0)) :: st) σ := z_callV (ci := 10) (As := [.ref (gAd g (3, w1, 0))]) hc hd vl_X_298 hdd (0, 0, 0) (dm_X) rfl rfl (ok_X_probeWearsAs g w1 hv1 σ (v, σ1) hf) rfl rfl hst rfl k
def b_X_read_33 (x1 : Int32) (x2 : Int32) (x5 : Int32) (x4 : Int32) (x6 : Int32) (σ : Sg) : Option ((Int32 × Int32 × Sg) ⊕ (Int32 × Sg)) :=
  (if (iI 9) < x6 then some (.inr (x4, σ)) else Option.bind (rd x2 8) (fun j4 => b2 (f_Rug_become 3 0 0 j4 σ) (fun v6 σ7 => Option.bind (rd x5 6) (fun j9 => Option.bind (rd x1 4) (fun j11 => b2 (f_X_probeWearsAs j11 (upI (upK σ7 2 3 0 j9) 2 3 0 4 x6)) (fun v13 σ14 => (if v13 = (iI 0) then some (.inl (x4, x6 + (iI 1), σ14)) else some (.inl (x4 + (iI 1), x6 + (iI 1), σ14)))))))))
theorem sb_X_read_33 {x : Cx} {g : Gv} {ρ : Option Value × Sg} (hc : Zc x g c_X_read R_X 7 (some .int) 5) (x1 : Int32) (x2 : Int32) (x5 : Int32) (x4 : Int32) (x6 : Int32) (σ : Sg) (r : (Int32 × Int32 × Sg) ⊕ (Int32 × Sg)) (hf : b_X_read_33 x1 x2 x5 x4 x6 σ = some r) (hi : ∀ a', r = .inl a' → Z x g 7 ρ 33 [(0, .ref (gAd g (0, 0, 0))), (1, .int x1), (2, .int x2), (4, .int a'.1), (5, .int x5), (6, .int a'.2.1)] [] a'.2.2) (he0 : ∀ b, r = .inr b → Z x g 7 ρ 101 [(0, .ref (gAd g (0, 0, 0))), (1, .int x1), (2, .int x2), (4, .int b.1), (5, .int x5)] [] b.2) : Z x g 7 ρ 33 [(0, .ref (gAd g (0, 0, 0))), (1, .int x1), (2, .int x2), (4, .int x4), (5, .int x5), (6, .int x6)] [] σ := by
  unfold b_X_read_33 at hf
  refine z_iload hc d_X_read_33 5 rfl ?_
  refine z_bipush (v := (iI 9)) hc d_X_read_35 (by decide) ?_
  refine z_icmp_gt (tgt := 101) hc d_X_read_37 (by decide) (fun hq => ?_) (fun hq => ?_)
  · have hf := ifp hq hf
    refine z_sub [0, 1, 2, 3, 4] (L' := [(0, .ref (gAd g (0, 0, 0))), (1, .int x1), (2, .int x2), (4, .int x4), (5, .int x5)]) rfl ?_
    exact he0 (x4, σ) (Option.some.inj hf).symm
  · have hf := ifn hq hf
    refine z_aload_n hc d_X_read_40 0 rfl ?_
    refine gf_X_63 hc d_X_read_41  ?_
    refine z_aload_n hc d_X_read_44 0 rfl ?_
    refine gf_X_50 hc d_X_read_45  ?_
    refine gf_X_135 hc d_X_read_48 (by decide) ?_
    refine z_iload_n hc d_X_read_51 2 rfl ?_
    obtain ⟨j4, hj5, hf⟩ := bd hf
    refine ald_rugs hc d_X_read_52 (by decide) hj5 ?_
    obtain ⟨v6, σ7, h8, hf⟩ := bd2 hf
    refine cz_X_212 hc d_X_read_53 (by decide) okR_probe (okR_of (by decide) (rd_lt hj5)) h8 (Nat.le_of_ble_eq_true rfl) ?_
    refine z_aload_n hc d_X_read_56 0 rfl ?_
    refine gf_X_63 hc d_X_read_57  ?_
    refine z_aload_n hc d_X_read_60 0 rfl ?_
    refine gf_X_41 hc d_X_read_61  ?_
    refine z_iload hc d_X_read_64 4 rfl ?_
    obtain ⟨j9, hj10, hf⟩ := bd hf
    refine ald_kinds hc d_X_read_66  hj10 ?_
    refine pf_X_139 hc d_X_read_67 okR_probe ?_
    refine z_aload_n hc d_X_read_70 0 rfl ?_
    refine gf_X_63 hc d_X_read_71  ?_
    refine z_iload hc d_X_read_74 5 rfl ?_
    refine pf_X_205 hc d_X_read_76 okR_probe ?_
    refine z_aload_n hc d_X_read_79 0 rfl ?_
    refine z_aload_n hc d_X_read_80 0 rfl ?_
    refine gf_X_76 hc d_X_read_81  ?_
    refine z_iload_n hc d_X_read_84 1 rfl ?_
    obtain ⟨j11, hj12, hf⟩ := bd hf
    refine ald_sheets hc d_X_read_85  hj12 ?_
    obtain ⟨v13, σ14, h15, hf⟩ := bd2 hf
    refine cz_X_298 hc d_X_read_86 (by decide) (rd_lt hj12) h15 (Nat.le_of_ble_eq_true rfl) ?_
    refine z_if_eq (tgt := 95) hc d_X_read_89 (by decide) (fun hq => ?_) (fun hq => ?_)
    · have hf := ifp hq hf
      refine z_iinc (v := x6 + (iI 1)) (L' := [(6, .int (x6 + (iI 1))), (0, .ref (gAd g (0, 0, 0))), (1, .int x1), (2, .int x2), (4, .int x4), (5, .int x5)]) hc d_X_read_95 5 rfl rfl (by decide) rfl ?_
      refine z_goto (tgt := 33) hc d_X_read_98 (by decide) ?_
      refine z_sub [1, 2, 3, 4, 5, 0] (L' := [(0, .ref (gAd g (0, 0, 0))), (1, .int x1), (2, .int x2), (4, .int x4), (5, .int x5), (6, .int (x6 + (iI 1)))]) rfl ?_
      exact hi (x4, x6 + (iI 1), σ14) (Option.some.inj hf).symm
    · have hf := ifn hq hf
      refine z_iinc (v := x4 + (iI 1)) (L' := [(4, .int (x4 + (iI 1))), (0, .ref (gAd g (0, 0, 0))), (1, .int x1), (2, .int x2), (5, .int x5), (6, .int x6)]) hc d_X_read_92 3 rfl rfl (by decide) rfl ?_
      refine z_iinc (v := x6 + (iI 1)) (L' := [(6, .int (x6 + (iI 1))), (4, .int (x4 + (iI 1))), (0, .ref (gAd g (0, 0, 0))), (1, .int x1), (2, .int x2), (5, .int x5)]) hc d_X_read_95 5 rfl rfl (by decide) rfl ?_
      refine z_goto (tgt := 33) hc d_X_read_98 (by decide) ?_
      refine z_sub [2, 3, 4, 1, 5, 0] (L' := [(0, .ref (gAd g (0, 0, 0))), (1, .int x1), (2, .int x2), (4, .int (x4 + (iI 1))), (5, .int x5), (6, .int (x6 + (iI 1)))]) rfl ?_
      exact hi (x4 + (iI 1), x6 + (iI 1), σ14) (Option.some.inj hf).symm
def b_X_read_23 (x1 : Int32) (x2 : Int32) (x4 : Int32) (x5 : Int32) (σ : Sg) : Option ((Int32 × Int32 × Sg) ⊕ (Int32 × Sg)) :=
  (if (iI 6) ≤ x5 then some (.inr (x4, σ)) else Option.bind (lp (fun a => b_X_read_33 x1 x2 x5 a.1 a.2.1 a.2.2) FU (x4, (iI 0), σ)) (fun b19 => some (.inl (b19.1, x5 + (iI 1), b19.2))))
theorem sb_X_read_23 {x : Cx} {g : Gv} {ρ : Option Value × Sg} (hc : Zc x g c_X_read R_X 7 (some .int) 5) (x1 : Int32) (x2 : Int32) (x4 : Int32) (x5 : Int32) (σ : Sg) (r : (Int32 × Int32 × Sg) ⊕ (Int32 × Sg)) (hf : b_X_read_23 x1 x2 x4 x5 σ = some r) (hi : ∀ a', r = .inl a' → Z x g 7 ρ 23 [(0, .ref (gAd g (0, 0, 0))), (1, .int x1), (2, .int x2), (4, .int a'.1), (5, .int a'.2.1)] [] a'.2.2) (he0 : ∀ b, r = .inr b → Z x g 7 ρ 107 [(4, .int b.1)] [] b.2) : Z x g 7 ρ 23 [(0, .ref (gAd g (0, 0, 0))), (1, .int x1), (2, .int x2), (4, .int x4), (5, .int x5)] [] σ := by
  unfold b_X_read_23 at hf
  refine z_iload hc d_X_read_23 4 rfl ?_
  refine z_bipush (v := (iI 6)) hc d_X_read_25 (by decide) ?_
  refine z_icmp_ge (tgt := 107) hc d_X_read_27 (by decide) (fun hq => ?_) (fun hq => ?_)
  · have hf := ifp hq hf
    refine z_sub [3] (L' := [(4, .int x4)]) rfl ?_
    exact he0 (x4, σ) (Option.some.inj hf).symm
  · have hf := ifn hq hf
    refine z_iconst (v := (iI 0)) hc d_X_read_30 (by decide) ?_
    refine z_istore (L' := [(6, .int (iI 0)), (0, .ref (gAd g (0, 0, 0))), (1, .int x1), (2, .int x2), (4, .int x4), (5, .int x5)]) hc d_X_read_31 (by decide) rfl ?_
    refine z_sub [1, 2, 3, 4, 5, 0] (L' := [(0, .ref (gAd g (0, 0, 0))), (1, .int x1), (2, .int x2), (4, .int x4), (5, .int x5), (6, .int (iI 0))]) rfl ?_
    obtain ⟨⟨y17, σ18⟩, hl20, hf⟩ := bd hf
    try dsimp only at hf
    refine lp_walk (α := (Int32 × Int32 × Sg)) (β := (Int32 × Sg)) (body := (fun a : (Int32 × Int32 × Sg) => b_X_read_33 x1 x2 x5 a.1 a.2.1 a.2.2)) (In := (fun a : (Int32 × Int32 × Sg) => Z x g 7 ρ 33 [(0, .ref (gAd g (0, 0, 0))), (1, .int x1), (2, .int x2), (4, .int a.1), (5, .int x5), (6, .int a.2.1)] [] a.2.2)) (Out := (fun b => Z x g 7 ρ 101 [(0, .ref (gAd g (0, 0, 0))), (1, .int x1), (2, .int x2), (4, .int b.1), (5, .int x5)] [] b.2)) (fun a r hb hi ho => sb_X_read_33 hc x1 x2 x5  a.1 a.2.1 a.2.2 r hb hi (fun b e => ho _ e)) FU (x4, (iI 0), σ) _ hl20 ?_
    dsimp only
    refine z_iinc (v := x5 + (iI 1)) (L' := [(5, .int (x5 + (iI 1))), (0, .ref (gAd g (0, 0, 0))), (1, .int x1), (2, .int x2), (4, .int y17)]) hc d_X_read_101 4 rfl rfl (by decide) rfl ?_
    refine z_goto (tgt := 23) hc d_X_read_104 (by decide) ?_
    refine z_sub [1, 2, 3, 4, 0] (L' := [(0, .ref (gAd g (0, 0, 0))), (1, .int x1), (2, .int x2), (4, .int y17), (5, .int (x5 + (iI 1)))]) rfl ?_
    exact hi (y17, x5 + (iI 1), σ18) (Option.some.inj hf).symm
def f_X_read (x1 : Int32) (x2 : Int32) (σ : Sg) : Option (Int32 × Sg) :=
  b2 (f_X_sheetAndRugFinding x1 x2 σ) (fun v1 σ2 => (if v1 = (iI 0) then Option.bind (lp (fun a => b_X_read_23 x1 x2 a.1 a.2.1 a.2.2) FU ((iI 0), (iI 0), σ2)) (fun b24 => some (b24.1, b24.2)) else b2 (f_X_found v1 σ2) (fun v26 σ27 => some (v26, σ27))))
theorem ok_X_read (g : Gv) (x1 : Int32) (x2 : Int32) (σ : Sg) (r : Int32 × Sg) (hf : f_X_read x1 x2 σ = some r) : Ok g y_X_read c_X_read 7 (some .int) 5 [.ref (gAd g (0, 0, 0)), .int x1, .int x2] σ (some (.int r.1), r.2) := by
  unfold f_X_read at hf
  refine Ok.of [(0, .ref (gAd g (0, 0, 0))), (1, .int x1), (2, .int x2)] (by decide) (Nat.le_of_ble_eq_true rfl) rfl ?_
  intro x hc
  have hc : Zc x g c_X_read R_X 7 (some .int) 5 := hc
  obtain ⟨ρ, hρ⟩ : ∃ ρ : Option Value × Sg, ρ = (some (.int r.1), r.2) := ⟨_, rfl⟩
  rw [← hρ]
  refine z_aload_n hc d_X_read_0 0 rfl ?_
  refine z_iload_n hc d_X_read_1 1 rfl ?_
  refine z_iload_n hc d_X_read_2 2 rfl ?_
  obtain ⟨v1, σ2, h3, hf⟩ := bd2 hf
  refine cz_X_295 hc d_X_read_3 (by decide)  h3 (Nat.le_of_ble_eq_true rfl) ?_
  refine z_istore_n (L' := [(3, .int v1), (0, .ref (gAd g (0, 0, 0))), (1, .int x1), (2, .int x2)]) hc d_X_read_6 (by decide) rfl ?_
  refine z_iload_n hc d_X_read_7 0 rfl ?_
  refine z_if_eq (tgt := 17) hc d_X_read_8 (by decide) (fun hq => ?_) (fun hq => ?_)
  · have hf := ifp hq hf
    refine z_iconst (v := (iI 0)) hc d_X_read_17 (by decide) ?_
    refine z_istore (L' := [(4, .int (iI 0)), (3, .int v1), (0, .ref (gAd g (0, 0, 0))), (1, .int x1), (2, .int x2)]) hc d_X_read_18 (by decide) rfl ?_
    refine z_iconst (v := (iI 0)) hc d_X_read_20 (by decide) ?_
    refine z_istore (L' := [(5, .int (iI 0)), (4, .int (iI 0)), (3, .int v1), (0, .ref (gAd g (0, 0, 0))), (1, .int x1), (2, .int x2)]) hc d_X_read_21 (by decide) rfl ?_
    refine z_sub [3, 4, 5, 1, 0] (L' := [(0, .ref (gAd g (0, 0, 0))), (1, .int x1), (2, .int x2), (4, .int (iI 0)), (5, .int (iI 0))]) rfl ?_
    obtain ⟨⟨y22, σ23⟩, hl25, hf⟩ := bd hf
    try dsimp only at hf
    refine lp_walk (α := (Int32 × Int32 × Sg)) (β := (Int32 × Sg)) (body := (fun a : (Int32 × Int32 × Sg) => b_X_read_23 x1 x2 a.1 a.2.1 a.2.2)) (In := (fun a : (Int32 × Int32 × Sg) => Z x g 7 ρ 23 [(0, .ref (gAd g (0, 0, 0))), (1, .int x1), (2, .int x2), (4, .int a.1), (5, .int a.2.1)] [] a.2.2)) (Out := (fun b => Z x g 7 ρ 107 [(4, .int b.1)] [] b.2)) (fun a r hb hi ho => sb_X_read_23 hc x1 x2  a.1 a.2.1 a.2.2 r hb hi (fun b e => ho _ e)) FU ((iI 0), (iI 0), σ2) _ hl25 ?_
    dsimp only
    refine z_iload hc d_X_read_107 0 rfl ?_
    exact z_iret hc d_X_read_109 (rI hf hρ)
  · have hf := ifn hq hf
    refine z_aload_n hc d_X_read_11 1 rfl ?_
    refine z_iload_n hc d_X_read_12 0 rfl ?_
    obtain ⟨v26, σ27, h28, hf⟩ := bd2 hf
    refine cz_X_90 hc d_X_read_13 (by decide)  h28 (Nat.le_of_ble_eq_true rfl) ?_
    exact z_iret hc d_X_read_16 (rI hf hρ)
def f_X_image (σ : Sg) : Option (Int32 × Sg) :=
  b2 (f_World_become 1 0 σ) (fun v1 σ2 => some ((iI 1), upI σ2 0 0 0 0 (iI 1)))
theorem ok_X_image (g : Gv) (σ : Sg) (r : Int32 × Sg) (hf : f_X_image σ = some r) : Ok g y_X_image c_X_image 1 (some .int) 2 [.ref (gAd g (0, 0, 0))] σ (some (.int r.1), r.2) := by
  unfold f_X_image at hf
  refine Ok.of [(0, .ref (gAd g (0, 0, 0)))] (by decide) (Nat.le_of_ble_eq_true rfl) rfl ?_
  intro x hc
  have hc : Zc x g c_X_image R_X 1 (some .int) 2 := hc
  obtain ⟨ρ, hρ⟩ : ∃ ρ : Option Value × Sg, ρ = (some (.int r.1), r.2) := ⟨_, rfl⟩
  rw [← hρ]
  refine z_aload_n hc d_X_image_0 0 rfl ?_
  refine gf_X_54 hc d_X_image_1  ?_
  refine z_aload_n hc d_X_image_4 0 rfl ?_
  refine gf_X_50 hc d_X_image_5  ?_
  obtain ⟨v1, σ2, h3, hf⟩ := bd2 hf
  refine cz_X_219 hc d_X_image_8 (by decide) (by decide) (by decide) h3 (Nat.le_of_ble_eq_true rfl) ?_
  refine z_aload_n hc d_X_image_11 0 rfl ?_
  refine z_iconst (v := (iI 1)) hc d_X_image_12 (by decide) ?_
  refine pf_X_302 hc d_X_image_13  (by decide) ?_
  refine z_iconst (v := (iI 1)) hc d_X_image_16 (by decide) ?_
  exact z_iret hc d_X_image_17 (rI hf hρ)
def f_X_undo (σ : Sg) : Option (Int32 × Sg) :=
  (if (σ.1 0 0 0 0) = (iI 0) then b2 (f_X_found (iI (-1000000004)) σ) (fun v4 σ5 => some (v4, σ5)) else b2 (f_World_become 0 1 σ) (fun v1 σ2 => some (σ2.1 1 0 0 0, σ2)))
theorem ok_X_undo (g : Gv) (σ : Sg) (r : Int32 × Sg) (hf : f_X_undo σ = some r) : Ok g y_X_undo c_X_undo 1 (some .int) 2 [.ref (gAd g (0, 0, 0))] σ (some (.int r.1), r.2) := by
  unfold f_X_undo at hf
  refine Ok.of [(0, .ref (gAd g (0, 0, 0)))] (by decide) (Nat.le_of_ble_eq_true rfl) rfl ?_
  intro x hc
  have hc : Zc x g c_X_undo R_X 1 (some .int) 2 := hc
  obtain ⟨ρ, hρ⟩ : ∃ ρ : Option Value × Sg, ρ = (some (.int r.1), r.2) := ⟨_, rfl⟩
  rw [← hρ]
  refine z_aload_n hc d_X_undo_0 0 rfl ?_
  refine gf_X_302 hc d_X_undo_1  ?_
  refine z_if_ne (tgt := 14) hc d_X_undo_4 (by decide) (fun hq => ?_) (fun hq => ?_)
  · have hf := ifn hq hf
    refine z_aload_n hc d_X_undo_14 0 rfl ?_
    refine gf_X_50 hc d_X_undo_15  ?_
    refine z_aload_n hc d_X_undo_18 0 rfl ?_
    refine gf_X_54 hc d_X_undo_19  ?_
    obtain ⟨v1, σ2, h3, hf⟩ := bd2 hf
    refine cz_X_219 hc d_X_undo_22 (by decide) (by decide) (by decide) h3 (Nat.le_of_ble_eq_true rfl) ?_
    refine z_aload_n hc d_X_undo_25 0 rfl ?_
    refine gf_X_50 hc d_X_undo_26  ?_
    refine gf_X_235 hc d_X_undo_29 (by decide) ?_
    exact z_iret hc d_X_undo_32 (rI hf hρ)
  · have hf := ifp hq hf
    refine z_aload_n hc d_X_undo_7 0 rfl ?_
    refine z_ldc (v := (iI (-1000000004))) hc co_X_225 d_X_undo_8 ?_
    obtain ⟨v4, σ5, h6, hf⟩ := bd2 hf
    refine cz_X_90 hc d_X_undo_10 (by decide)  h6 (Nat.le_of_ble_eq_true rfl) ?_
    exact z_iret hc d_X_undo_13 (rI hf hρ)
def j_X_tear_12 (xs0 : Int32) (σ : Sg) : Option (Int32 × Sg) :=
  some (xs0, upI σ 0 0 0 0 (iI 0))
theorem sj_X_tear_12 {x : Cx} {g : Gv} {ρ : Option Value × Sg} (hc : Zc x g c_X_tear R_X 2 (some .int) 0) (xs0 : Int32) (σ : Sg) (r : Int32 × Sg) (hf : j_X_tear_12 xs0 σ = some r) (hρ : ρ = (some (.int r.1), r.2)) : Z x g 2 ρ 12 [(0, .ref (gAd g (0, 0, 0)))] [.int xs0] σ := by
  unfold j_X_tear_12 at hf
  refine z_istore_n (L' := [(1, .int xs0), (0, .ref (gAd g (0, 0, 0)))]) hc d_X_tear_12 (by decide) rfl ?_
  refine z_aload_n hc d_X_tear_13 1 rfl ?_
  refine z_iconst (v := (iI 0)) hc d_X_tear_14 (by decide) ?_
  refine pf_X_302 hc d_X_tear_15  (by decide) ?_
  refine z_iload_n hc d_X_tear_18 0 rfl ?_
  exact z_iret hc d_X_tear_19 (rI hf hρ)
def f_X_tear (σ : Sg) : Option (Int32 × Sg) :=
  (if (σ.1 0 0 0 0) = (iI 0) then j_X_tear_12  (iI 0) σ else j_X_tear_12  (iI 1) σ)
theorem ok_X_tear (g : Gv) (σ : Sg) (r : Int32 × Sg) (hf : f_X_tear σ = some r) : Ok g y_X_tear c_X_tear 2 (some .int) 0 [.ref (gAd g (0, 0, 0))] σ (some (.int r.1), r.2) := by
  unfold f_X_tear at hf
  refine Ok.of [(0, .ref (gAd g (0, 0, 0)))] (by decide) (Nat.le_of_ble_eq_true rfl) rfl ?_
  intro x hc
  have hc : Zc x g c_X_tear R_X 2 (some .int) 0 := hc
  obtain ⟨ρ, hρ⟩ : ∃ ρ : Option Value × Sg, ρ = (some (.int r.1), r.2) := ⟨_, rfl⟩
  rw [← hρ]
  refine z_aload_n hc d_X_tear_0 0 rfl ?_
  refine gf_X_302 hc d_X_tear_1  ?_
  refine z_if_eq (tgt := 11) hc d_X_tear_4 (by decide) (fun hq => ?_) (fun hq => ?_)
  · have hf := ifp hq hf
    refine z_iconst (v := (iI 0)) hc d_X_tear_11 (by decide) ?_
    refine z_sub [0] (L' := [(0, .ref (gAd g (0, 0, 0)))]) rfl ?_
    exact sj_X_tear_12 hc  (iI 0)   σ _ hf hρ
  · have hf := ifn hq hf
    refine z_iconst (v := (iI 1)) hc d_X_tear_7 (by decide) ?_
    refine z_goto (tgt := 12) hc d_X_tear_8 (by decide) ?_
    refine z_sub [0] (L' := [(0, .ref (gAd g (0, 0, 0)))]) rfl ?_
    exact sj_X_tear_12 hc  (iI 1)   σ _ hf hρ
theorem vl_X_306 : VL R_X 306 y_World_allMoths c_World_allMoths 3 (some .int) 0 := ⟨tb4 118 (by decide +kernel) (by decide +kernel), tb4 119 (by decide +kernel) (by decide +kernel), tb4 120 (by decide +kernel) (by decide +kernel), tb1 8 (by decide +kernel) (by decide +kernel), k_World_allMoths, by decide, by decide, by decide +kernel, by decide⟩
theorem cz_X_306 {x : Cx} {g : Gv} {cc : ByteArray} {nL d pc : Nat} {ret : Option FieldType} {ρ : Option Value × Sg} {L : List (Nat × Value)} {st : List Value} {σ : Sg} (hc : Zc x g cc R_X nL ret d) (hd : decode cc pc = .ok (.invokevirtual 306, 3)) (hdd : 1 ≤ d) {w0 : Nat} (hv0 : w0 < 3) {v : Int32} {σ1 : Sg} (hf : f_World_allMoths w0 σ = some (v, σ1)) (hst : (st.map (fun v => v.category)).sum ≤ 8) (k : Z x g nL ρ (pc + 3) L (.int v :: st) σ1) : Z x g nL ρ pc L (.ref (gAd g (1, w0, 0)) :: st) σ := z_callV (ci := 9) (As := []) hc hd vl_X_306 hdd (1, w0, 0) (dm_World hv0) rfl rfl (ok_World_allMoths g w0 hv0 σ (v, σ1) hf) rfl rfl hst rfl k
def f_X_count (x1 : Int32) (σ : Sg) : Option (Int32 × Sg) :=
  (if x1 = (iI 0) then some (σ.1 1 0 0 0, σ) else (if x1 = (iI 1) then some (σ.1 4 0 0 0, σ) else (if x1 = (iI 2) then b2 (f_World_setOut 0 σ) (fun v1 σ2 => b2 (f_Integer_bitCount_0f7a4 v1 σ2) (fun v4 σ5 => some (v4, σ5))) else (if x1 = (iI 3) then b2 (f_World_allMoths 0 σ) (fun v7 σ8 => some (v7, σ8)) else b2 (f_X_found (iI (-1000000001)) σ) (fun v10 σ11 => some (v10, σ11))))))
theorem ok_X_count (g : Gv) (x1 : Int32) (σ : Sg) (r : Int32 × Sg) (hf : f_X_count x1 σ = some r) : Ok g y_X_count c_X_count 2 (some .int) 2 [.ref (gAd g (0, 0, 0)), .int x1] σ (some (.int r.1), r.2) := by
  unfold f_X_count at hf
  refine Ok.of [(0, .ref (gAd g (0, 0, 0))), (1, .int x1)] (by decide) (Nat.le_of_ble_eq_true rfl) rfl ?_
  intro x hc
  have hc : Zc x g c_X_count R_X 2 (some .int) 2 := hc
  obtain ⟨ρ, hρ⟩ : ∃ ρ : Option Value × Sg, ρ = (some (.int r.1), r.2) := ⟨_, rfl⟩
  rw [← hρ]
  refine z_iload_n hc d_X_count_0 1 rfl ?_
  by_cases hq0 : x1 = (iI 0)
  · have hf := ifp hq0 hf
    refine z_tab (tgt := 32) (off := 31) (iI 0) hc d_X_count_1 hq0 (by decide) (by decide) (by decide) (by decide) ?_
    refine z_aload_n hc d_X_count_32 0 rfl ?_
    refine gf_X_50 hc d_X_count_33  ?_
    refine gf_X_235 hc d_X_count_36 (by decide) ?_
    exact z_iret hc d_X_count_39 (rI hf hρ)
  have hf := ifn hq0 hf
  by_cases hq1 : x1 = (iI 1)
  · have hf := ifp hq1 hf
    refine z_tab (tgt := 40) (off := 39) (iI 1) hc d_X_count_1 hq1 (by decide) (by decide) (by decide) (by decide) ?_
    refine z_aload_n hc d_X_count_40 0 rfl ?_
    refine gf_X_70 hc d_X_count_41  ?_
    refine gf_X_246 hc d_X_count_44  ?_
    exact z_iret hc d_X_count_47 (rI hf hρ)
  have hf := ifn hq1 hf
  by_cases hq2 : x1 = (iI 2)
  · have hf := ifp hq2 hf
    refine z_tab (tgt := 48) (off := 47) (iI 2) hc d_X_count_1 hq2 (by decide) (by decide) (by decide) (by decide) ?_
    refine z_aload_n hc d_X_count_48 0 rfl ?_
    refine gf_X_50 hc d_X_count_49  ?_
    obtain ⟨v1, σ2, h3, hf⟩ := bd2 hf
    refine cz_X_119 hc d_X_count_52 (by decide) (by decide) h3 (Nat.le_of_ble_eq_true rfl) ?_
    obtain ⟨v4, σ5, h6, hf⟩ := bd2 hf
    refine cz_X_241 hc d_X_count_55 (by decide)  h6 (Nat.le_of_ble_eq_true rfl) ?_
    exact z_iret hc d_X_count_58 (rI hf hρ)
  have hf := ifn hq2 hf
  by_cases hq3 : x1 = (iI 3)
  · have hf := ifp hq3 hf
    refine z_tab (tgt := 59) (off := 58) (iI 3) hc d_X_count_1 hq3 (by decide) (by decide) (by decide) (by decide) ?_
    refine z_aload_n hc d_X_count_59 0 rfl ?_
    refine gf_X_50 hc d_X_count_60  ?_
    obtain ⟨v7, σ8, h9, hf⟩ := bd2 hf
    refine cz_X_306 hc d_X_count_63 (by decide) (by decide) h9 (Nat.le_of_ble_eq_true rfl) ?_
    exact z_iret hc d_X_count_66 (rI hf hρ)
  have hf := ifn hq3 hf
  refine z_tabD (tgt := 67) 4 (by decide) hc d_X_count_1 (fun j hj => by match j, hj with | 0, _ => exact hq0 | 1, _ => exact hq1 | 2, _ => exact hq2 | 3, _ => exact hq3) (by decide) ?_
  refine z_aload_n hc d_X_count_67 0 rfl ?_
  refine z_ldc (v := (iI (-1000000001))) hc co_X_89 d_X_count_68 ?_
  obtain ⟨v10, σ11, h12, hf⟩ := bd2 hf
  refine cz_X_90 hc d_X_count_70 (by decide)  h12 (Nat.le_of_ble_eq_true rfl) ?_
  exact z_iret hc d_X_count_73 (rI hf hρ)
def b_X_status_32 (x2 : Int32) (x3 : Int32) (σ : Sg) : Option ((Int32 × Int32 × Sg) ⊕ (Int32 × Sg)) :=
  (if (iI 7) ≤ x3 then some (.inr (x2, σ)) else Option.bind (rd x3 7) (fun j4 => some (.inl (x2 + (σ.1 18 0 0 j4), x3 + (iI 1), σ))))
theorem sb_X_status_32 {x : Cx} {g : Gv} {ρ : Option Value × Sg} (hc : Zc x g c_X_status R_X 4 (some .int) 2) (x2 : Int32) (x3 : Int32) (σ : Sg) (r : (Int32 × Int32 × Sg) ⊕ (Int32 × Sg)) (hf : b_X_status_32 x2 x3 σ = some r) (hi : ∀ a', r = .inl a' → Z x g 4 ρ 32 [(0, .ref (gAd g (0, 0, 0))), (2, .int a'.1), (3, .int a'.2.1)] [] a'.2.2) (he0 : ∀ b, r = .inr b → Z x g 4 ρ 53 [(2, .int b.1)] [] b.2) : Z x g 4 ρ 32 [(0, .ref (gAd g (0, 0, 0))), (2, .int x2), (3, .int x3)] [] σ := by
  unfold b_X_status_32 at hf
  refine z_iload_n hc d_X_status_32 2 rfl ?_
  refine z_bipush (v := (iI 7)) hc d_X_status_33 (by decide) ?_
  refine z_icmp_ge (tgt := 53) hc d_X_status_35 (by decide) (fun hq => ?_) (fun hq => ?_)
  · have hf := ifp hq hf
    refine z_sub [1] (L' := [(2, .int x2)]) rfl ?_
    exact he0 (x2, σ) (Option.some.inj hf).symm
  · have hf := ifn hq hf
    refine z_iload_n hc d_X_status_38 1 rfl ?_
    refine z_aload_n hc d_X_status_39 0 rfl ?_
    refine gf_X_81 hc d_X_status_40  ?_
    refine z_iload_n hc d_X_status_43 2 rfl ?_
    obtain ⟨j4, hj5, hf⟩ := bd hf
    refine ald_tallies hc d_X_status_44  hj5 ?_
    refine z_iadd hc d_X_status_45 ?_
    refine z_istore_n (L' := [(2, .int (x2 + (σ.1 18 0 0 j4))), (0, .ref (gAd g (0, 0, 0))), (3, .int x3)]) hc d_X_status_46 (by decide) rfl ?_
    refine z_iinc (v := x3 + (iI 1)) (L' := [(3, .int (x3 + (iI 1))), (2, .int (x2 + (σ.1 18 0 0 j4))), (0, .ref (gAd g (0, 0, 0)))]) hc d_X_status_47 2 rfl rfl (by decide) rfl ?_
    refine z_goto (tgt := 32) hc d_X_status_50 (by decide) ?_
    refine z_sub [2, 1, 0] (L' := [(0, .ref (gAd g (0, 0, 0))), (2, .int (x2 + (σ.1 18 0 0 j4))), (3, .int (x3 + (iI 1)))]) rfl ?_
    exact hi (x2 + (σ.1 18 0 0 j4), x3 + (iI 1), σ) (Option.some.inj hf).symm
def f_X_status (x1 : Int32) (σ : Sg) : Option (Int32 × Sg) :=
  b2 (f_X_within x1 (iI (-1)) (iI 6) σ) (fun v1 σ2 => (if v1 = (iI 0) then b2 (f_X_found (iI (-1000000001)) σ2) (fun v13 σ14 => some (v13, σ14)) else (if x1 < (iI 0) then Option.bind (lp (fun a => b_X_status_32  a.1 a.2.1 a.2.2) FU ((iI 0), (iI 0), σ2)) (fun b9 => some (b9.1, b9.2)) else Option.bind (rd x1 7) (fun j11 => some (σ2.1 18 0 0 j11, σ2)))))
theorem ok_X_status (g : Gv) (x1 : Int32) (σ : Sg) (r : Int32 × Sg) (hf : f_X_status x1 σ = some r) : Ok g y_X_status c_X_status 4 (some .int) 2 [.ref (gAd g (0, 0, 0)), .int x1] σ (some (.int r.1), r.2) := by
  unfold f_X_status at hf
  refine Ok.of [(0, .ref (gAd g (0, 0, 0))), (1, .int x1)] (by decide) (Nat.le_of_ble_eq_true rfl) rfl ?_
  intro x hc
  have hc : Zc x g c_X_status R_X 4 (some .int) 2 := hc
  obtain ⟨ρ, hρ⟩ : ∃ ρ : Option Value × Sg, ρ = (some (.int r.1), r.2) := ⟨_, rfl⟩
  rw [← hρ]
  refine z_iload_n hc d_X_status_0 1 rfl ?_
  refine z_iconst (v := (iI (-1))) hc d_X_status_1 (by decide) ?_
  refine z_bipush (v := (iI 6)) hc d_X_status_2 (by decide) ?_
  obtain ⟨v1, σ2, h3, hf⟩ := bd2 hf
  refine cz_X_85 hc d_X_status_4 (by decide)  h3 (Nat.le_of_ble_eq_true rfl) ?_
  refine z_if_ne (tgt := 17) hc d_X_status_7 (by decide) (fun hq => ?_) (fun hq => ?_)
  · have hf := ifn hq hf
    refine z_iload_n hc d_X_status_17 1 rfl ?_
    refine z_if_lt (tgt := 28) hc d_X_status_18 (by decide) (fun hq => ?_) (fun hq => ?_)
    · have hf := ifp hq hf
      refine z_iconst (v := (iI 0)) hc d_X_status_28 (by decide) ?_
      refine z_istore_n (L' := [(2, .int (iI 0)), (0, .ref (gAd g (0, 0, 0))), (1, .int x1)]) hc d_X_status_29 (by decide) rfl ?_
      refine z_iconst (v := (iI 0)) hc d_X_status_30 (by decide) ?_
      refine z_istore_n (L' := [(3, .int (iI 0)), (2, .int (iI 0)), (0, .ref (gAd g (0, 0, 0))), (1, .int x1)]) hc d_X_status_31 (by decide) rfl ?_
      refine z_sub [2, 1, 0] (L' := [(0, .ref (gAd g (0, 0, 0))), (2, .int (iI 0)), (3, .int (iI 0))]) rfl ?_
      obtain ⟨⟨y7, σ8⟩, hl10, hf⟩ := bd hf
      try dsimp only at hf
      refine lp_walk (α := (Int32 × Int32 × Sg)) (β := (Int32 × Sg)) (body := (fun a : (Int32 × Int32 × Sg) => b_X_status_32  a.1 a.2.1 a.2.2)) (In := (fun a : (Int32 × Int32 × Sg) => Z x g 4 ρ 32 [(0, .ref (gAd g (0, 0, 0))), (2, .int a.1), (3, .int a.2.1)] [] a.2.2)) (Out := (fun b => Z x g 4 ρ 53 [(2, .int b.1)] [] b.2)) (fun a r hb hi ho => sb_X_status_32 hc   a.1 a.2.1 a.2.2 r hb hi (fun b e => ho _ e)) FU ((iI 0), (iI 0), σ2) _ hl10 ?_
      dsimp only
      refine z_iload_n hc d_X_status_53 0 rfl ?_
      exact z_iret hc d_X_status_54 (rI hf hρ)
    · have hf := ifn hq hf
      refine z_aload_n hc d_X_status_21 0 rfl ?_
      refine gf_X_81 hc d_X_status_22  ?_
      refine z_iload_n hc d_X_status_25 1 rfl ?_
      obtain ⟨j11, hj12, hf⟩ := bd hf
      refine ald_tallies hc d_X_status_26  hj12 ?_
      exact z_iret hc d_X_status_27 (rI hf hρ)
  · have hf := ifp hq hf
    refine z_aload_n hc d_X_status_10 0 rfl ?_
    refine z_ldc (v := (iI (-1000000001))) hc co_X_89 d_X_status_11 ?_
    obtain ⟨v13, σ14, h15, hf⟩ := bd2 hf
    refine cz_X_90 hc d_X_status_13 (by decide)  h15 (Nat.le_of_ble_eq_true rfl) ?_
    exact z_iret hc d_X_status_16 (rI hf hρ)
