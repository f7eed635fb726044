def f_Kind_reaches (w0 : Nat) (w1 : Nat) (c1 : Nat) (σ : Sg) : Option (Int32 × Sg) :=
  some (σ.1 2 w1 c1 2, σ)
theorem ok_Kind_reaches (g : Gv) (w0 : Nat) (w1 : Nat) (c1 : Nat) (hv0 : w0 < 6) (hv1 : okR w1 c1) (σ : Sg) (r : Int32 × Sg) (hf : f_Kind_reaches w0 w1 c1 σ = some r) : Ok g y_Kind_reaches c_Kind_reaches 2 (some .int) 0 [.ref (gAd g (5, w0, 0)), .ref (gAd g (2, w1, c1))] σ (some (.int r.1), r.2) := by
  unfold f_Kind_reaches at hf
  refine Ok.of [(0, .ref (gAd g (5, w0, 0))), (1, .ref (gAd g (2, w1, c1)))] (by decide) (Nat.le_of_ble_eq_true rfl) rfl ?_
  intro x hc
  have hc : Zc x g c_Kind_reaches R_Kind 2 (some .int) 0 := hc
  obtain ⟨ρ, hρ⟩ : ∃ ρ : Option Value × Sg, ρ = (some (.int r.1), r.2) := ⟨_, rfl⟩
  rw [← hρ]
  refine z_aload_n hc d_Kind_reaches_0 1 rfl ?_
  refine gf_Kind_21 hc d_Kind_reaches_1 hv1 ?_
  exact z_iret hc d_Kind_reaches_4 (rI hf hρ)
def f_Kind_wears (w0 : Nat) (w1 : Nat) (c1 : Nat) (x2 : Int32) (σ : Sg) : Option (Int32 × Sg) :=
  some ((iI 1) + ((iI 2) * x2), σ)
theorem ok_Kind_wears (g : Gv) (w0 : Nat) (w1 : Nat) (c1 : Nat) (x2 : Int32) (hv0 : w0 < 6) (hv1 : okR w1 c1) (σ : Sg) (r : Int32 × Sg) (hf : f_Kind_wears w0 w1 c1 x2 σ = some r) : Ok g y_Kind_wears c_Kind_wears 3 (some .int) 0 [.ref (gAd g (5, w0, 0)), .ref (gAd g (2, w1, c1)), .int x2] σ (some (.int r.1), r.2) := by
  unfold f_Kind_wears at hf
  refine Ok.of [(0, .ref (gAd g (5, w0, 0))), (1, .ref (gAd g (2, w1, c1))), (2, .int x2)] (by decide) (Nat.le_of_ble_eq_true rfl) rfl ?_
  intro x hc
  have hc : Zc x g c_Kind_wears R_Kind 3 (some .int) 0 := hc
  obtain ⟨ρ, hρ⟩ : ∃ ρ : Option Value × Sg, ρ = (some (.int r.1), r.2) := ⟨_, rfl⟩
  rw [← hρ]
  refine z_iconst (v := (iI 1)) hc d_Kind_wears_0 (by decide) ?_
  refine z_iconst (v := (iI 2)) hc d_Kind_wears_1 (by decide) ?_
  refine z_iload_n hc d_Kind_wears_2 2 rfl ?_
  refine z_imul hc d_Kind_wears_3 ?_
  refine z_iadd hc d_Kind_wears_4 ?_
  exact z_iret hc d_Kind_wears_5 (rI hf hρ)
def f_Kind_breeds (w0 : Nat) (x1 : Int32) (σ : Sg) : Option (Int32 × Sg) :=
  some ((iI 1), σ)
theorem ok_Kind_breeds (g : Gv) (w0 : Nat) (x1 : Int32) (hv0 : w0 < 6) (σ : Sg) (r : Int32 × Sg) (hf : f_Kind_breeds w0 x1 σ = some r) : Ok g y_Kind_breeds c_Kind_breeds 2 (some .int) 0 [.ref (gAd g (5, w0, 0)), .int x1] σ (some (.int r.1), r.2) := by
  unfold f_Kind_breeds at hf
  refine Ok.of [(0, .ref (gAd g (5, w0, 0))), (1, .int x1)] (by decide) (Nat.le_of_ble_eq_true rfl) rfl ?_
  intro x hc
  have hc : Zc x g c_Kind_breeds R_Kind 2 (some .int) 0 := hc
  obtain ⟨ρ, hρ⟩ : ∃ ρ : Option Value × Sg, ρ = (some (.int r.1), r.2) := ⟨_, rfl⟩
  rw [← hρ]
  refine z_iconst (v := (iI 1)) hc d_Kind_breeds_0 (by decide) ?_
  exact z_iret hc d_Kind_breeds_1 (rI hf hρ)
def f_Kind_gains (w0 : Nat) (w1 : Nat) (c1 : Nat) (σ : Sg) : Option (Int32 × Sg) :=
  some ((iI 10), σ)
theorem ok_Kind_gains (g : Gv) (w0 : Nat) (w1 : Nat) (c1 : Nat) (hv0 : w0 < 6) (hv1 : okR w1 c1) (σ : Sg) (r : Int32 × Sg) (hf : f_Kind_gains w0 w1 c1 σ = some r) : Ok g y_Kind_gains c_Kind_gains 2 (some .int) 0 [.ref (gAd g (5, w0, 0)), .ref (gAd g (2, w1, c1))] σ (some (.int r.1), r.2) := by
  unfold f_Kind_gains at hf
  refine Ok.of [(0, .ref (gAd g (5, w0, 0))), (1, .ref (gAd g (2, w1, c1)))] (by decide) (Nat.le_of_ble_eq_true rfl) rfl ?_
  intro x hc
  have hc : Zc x g c_Kind_gains R_Kind 2 (some .int) 0 := hc
  obtain ⟨ρ, hρ⟩ : ∃ ρ : Option Value × Sg, ρ = (some (.int r.1), r.2) := ⟨_, rfl⟩
  rw [← hρ]
  refine z_bipush (v := (iI 10)) hc d_Kind_gains_0 (by decide) ?_
  exact z_iret hc d_Kind_gains_2 (rI hf hρ)
def f_Mat_reaches (w0 : Nat) (w1 : Nat) (c1 : Nat) (σ : Sg) : Option (Int32 × Sg) :=
  some ((iI 2), σ)
theorem ok_Mat_reaches (g : Gv) (w0 : Nat) (w1 : Nat) (c1 : Nat) (hv0 : w0 < 6) (hv1 : okR w1 c1) (σ : Sg) (r : Int32 × Sg) (hf : f_Mat_reaches w0 w1 c1 σ = some r) : Ok g y_Mat_reaches c_Mat_reaches 2 (some .int) 0 [.ref (gAd g (5, w0, 0)), .ref (gAd g (2, w1, c1))] σ (some (.int r.1), r.2) := by
  unfold f_Mat_reaches at hf
  refine Ok.of [(0, .ref (gAd g (5, w0, 0))), (1, .ref (gAd g (2, w1, c1)))] (by decide) (Nat.le_of_ble_eq_true rfl) rfl ?_
  intro x hc
  have hc : Zc x g c_Mat_reaches R_Mat 2 (some .int) 0 := hc
  obtain ⟨ρ, hρ⟩ : ∃ ρ : Option Value × Sg, ρ = (some (.int r.1), r.2) := ⟨_, rfl⟩
  rw [← hρ]
  refine z_iconst (v := (iI 2)) hc d_Mat_reaches_0 (by decide) ?_
  exact z_iret hc d_Mat_reaches_1 (rI hf hρ)
def f_Mat_wears (w0 : Nat) (w1 : Nat) (c1 : Nat) (x2 : Int32) (σ : Sg) : Option (Int32 × Sg) :=
  some ((iI 0), σ)
theorem ok_Mat_wears (g : Gv) (w0 : Nat) (w1 : Nat) (c1 : Nat) (x2 : Int32) (hv0 : w0 < 6) (hv1 : okR w1 c1) (σ : Sg) (r : Int32 × Sg) (hf : f_Mat_wears w0 w1 c1 x2 σ = some r) : Ok g y_Mat_wears c_Mat_wears 3 (some .int) 0 [.ref (gAd g (5, w0, 0)), .ref (gAd g (2, w1, c1)), .int x2] σ (some (.int r.1), r.2) := by
  unfold f_Mat_wears at hf
  refine Ok.of [(0, .ref (gAd g (5, w0, 0))), (1, .ref (gAd g (2, w1, c1))), (2, .int x2)] (by decide) (Nat.le_of_ble_eq_true rfl) rfl ?_
  intro x hc
  have hc : Zc x g c_Mat_wears R_Mat 3 (some .int) 0 := hc
  obtain ⟨ρ, hρ⟩ : ∃ ρ : Option Value × Sg, ρ = (some (.int r.1), r.2) := ⟨_, rfl⟩
  rw [← hρ]
  refine z_iconst (v := (iI 0)) hc d_Mat_wears_0 (by decide) ?_
  exact z_iret hc d_Mat_wears_1 (rI hf hρ)
def f_Mat_breeds (w0 : Nat) (x1 : Int32) (σ : Sg) : Option (Int32 × Sg) :=
  some ((iI 0), σ)
theorem ok_Mat_breeds (g : Gv) (w0 : Nat) (x1 : Int32) (hv0 : w0 < 6) (σ : Sg) (r : Int32 × Sg) (hf : f_Mat_breeds w0 x1 σ = some r) : Ok g y_Mat_breeds c_Mat_breeds 2 (some .int) 0 [.ref (gAd g (5, w0, 0)), .int x1] σ (some (.int r.1), r.2) := by
  unfold f_Mat_breeds at hf
  refine Ok.of [(0, .ref (gAd g (5, w0, 0))), (1, .int x1)] (by decide) (Nat.le_of_ble_eq_true rfl) rfl ?_
  intro x hc
  have hc : Zc x g c_Mat_breeds R_Mat 2 (some .int) 0 := hc
  obtain ⟨ρ, hρ⟩ : ∃ ρ : Option Value × Sg, ρ = (some (.int r.1), r.2) := ⟨_, rfl⟩
  rw [← hρ]
  refine z_iconst (v := (iI 0)) hc d_Mat_breeds_0 (by decide) ?_
  exact z_iret hc d_Mat_breeds_1 (rI hf hρ)
def f_Mat_gains (w0 : Nat) (w1 : Nat) (c1 : Nat) (σ : Sg) : Option (Int32 × Sg) :=
  some ((iI 0), σ)
theorem ok_Mat_gains (g : Gv) (w0 : Nat) (w1 : Nat) (c1 : Nat) (hv0 : w0 < 6) (hv1 : okR w1 c1) (σ : Sg) (r : Int32 × Sg) (hf : f_Mat_gains w0 w1 c1 σ = some r) : Ok g y_Mat_gains c_Mat_gains 2 (some .int) 0 [.ref (gAd g (5, w0, 0)), .ref (gAd g (2, w1, c1))] σ (some (.int r.1), r.2) := by
  unfold f_Mat_gains at hf
  refine Ok.of [(0, .ref (gAd g (5, w0, 0))), (1, .ref (gAd g (2, w1, c1)))] (by decide) (Nat.le_of_ble_eq_true rfl) rfl ?_
  intro x hc
  have hc : Zc x g c_Mat_gains R_Mat 2 (some .int) 0 := hc
  obtain ⟨ρ, hρ⟩ : ∃ ρ : Option Value × Sg, ρ = (some (.int r.1), r.2) := ⟨_, rfl⟩
  rw [← hρ]
  refine z_iconst (v := (iI 0)) hc d_Mat_gains_0 (by decide) ?_
  exact z_iret hc d_Mat_gains_1 (rI hf hρ)
def j_Tape_tokenBegunBy_28 (x0 : Int32) (σ : Sg) : Option (Int32 × Sg) :=
  (if x0 = (iI 59) then some ((iI 3), σ) else some ((iI 4), σ))
theorem sj_Tape_tokenBegunBy_28 {x : Cx} {g : Gv} {ρ : Option Value × Sg} (hc : Zc x g c_Tape_tokenBegunBy R_Tape 1 (some .int) 0) (x0 : Int32) (σ : Sg) (r : Int32 × Sg) (hf : j_Tape_tokenBegunBy_28 x0 σ = some r) (hρ : ρ = (some (.int r.1), r.2)) : Z x g 1 ρ 28 [(0, .int x0)] [] σ := by
  unfold j_Tape_tokenBegunBy_28 at hf
  refine z_iload_n hc d_Tape_tokenBegunBy_28 0 rfl ?_
  refine z_bipush (v := (iI 59)) hc d_Tape_tokenBegunBy_29 (by decide) ?_
  refine z_icmp_ne (tgt := 38) hc d_Tape_tokenBegunBy_31 (by decide) (fun hq => ?_) (fun hq => ?_)
  · have hf := ifn hq hf
    refine z_iconst (v := (iI 4)) hc d_Tape_tokenBegunBy_38 (by decide) ?_
    exact z_iret hc d_Tape_tokenBegunBy_39 (rI hf hρ)
  · have hf := ifp hq hf
    refine z_iconst (v := (iI 3)) hc d_Tape_tokenBegunBy_34 (by decide) ?_
    refine z_goto (tgt := 39) hc d_Tape_tokenBegunBy_35 (by decide) ?_
    exact z_iret hc d_Tape_tokenBegunBy_39 (rI hf hρ)
def j_Tape_tokenBegunBy_14 (x0 : Int32) (σ : Sg) : Option (Int32 × Sg) :=
  (if x0 < (iI 48) then j_Tape_tokenBegunBy_28 x0  σ else (if (iI 57) < x0 then j_Tape_tokenBegunBy_28 x0  σ else some ((iI 2), σ)))
theorem sj_Tape_tokenBegunBy_14 {x : Cx} {g : Gv} {ρ : Option Value × Sg} (hc : Zc x g c_Tape_tokenBegunBy R_Tape 1 (some .int) 0) (x0 : Int32) (σ : Sg) (r : Int32 × Sg) (hf : j_Tape_tokenBegunBy_14 x0 σ = some r) (hρ : ρ = (some (.int r.1), r.2)) : Z x g 1 ρ 14 [(0, .int x0)] [] σ := by
  unfold j_Tape_tokenBegunBy_14 at hf
  refine z_iload_n hc d_Tape_tokenBegunBy_14 0 rfl ?_
  refine z_bipush (v := (iI 48)) hc d_Tape_tokenBegunBy_15 (by decide) ?_
  refine z_icmp_lt (tgt := 28) hc d_Tape_tokenBegunBy_17 (by decide) (fun hq => ?_) (fun hq => ?_)
  · have hf := ifp hq hf
    refine z_sub [0] (L' := [(0, .int x0)]) rfl ?_
    exact sj_Tape_tokenBegunBy_28 hc x0    σ _ hf hρ
  · have hf := ifn hq hf
    refine z_iload_n hc d_Tape_tokenBegunBy_20 0 rfl ?_
    refine z_bipush (v := (iI 57)) hc d_Tape_tokenBegunBy_21 (by decide) ?_
    refine z_icmp_gt (tgt := 28) hc d_Tape_tokenBegunBy_23 (by decide) (fun hq => ?_) (fun hq => ?_)
    · have hf := ifp hq hf
      refine z_sub [0] (L' := [(0, .int x0)]) rfl ?_
      exact sj_Tape_tokenBegunBy_28 hc x0    σ _ hf hρ
    · have hf := ifn hq hf
      refine z_iconst (v := (iI 2)) hc d_Tape_tokenBegunBy_26 (by decide) ?_
      exact z_iret hc d_Tape_tokenBegunBy_27 (rI hf hρ)
def f_Tape_tokenBegunBy (x0 : Int32) (σ : Sg) : Option (Int32 × Sg) :=
  (if x0 < (iI 97) then j_Tape_tokenBegunBy_14 x0  σ else (if (iI 122) < x0 then j_Tape_tokenBegunBy_14 x0  σ else some ((iI 1), σ)))
theorem ok_Tape_tokenBegunBy (g : Gv) (x0 : Int32) (σ : Sg) (r : Int32 × Sg) (hf : f_Tape_tokenBegunBy x0 σ = some r) : Ok g y_Tape_tokenBegunBy c_Tape_tokenBegunBy 1 (some .int) 0 [.int x0] σ (some (.int r.1), r.2) := by
  unfold f_Tape_tokenBegunBy at hf
  refine Ok.of [(0, .int x0)] (by decide) (Nat.le_of_ble_eq_true rfl) rfl ?_
  intro x hc
  have hc : Zc x g c_Tape_tokenBegunBy R_Tape 1 (some .int) 0 := hc
  obtain ⟨ρ, hρ⟩ : ∃ ρ : Option Value × Sg, ρ = (some (.int r.1), r.2) := ⟨_, rfl⟩
  rw [← hρ]
  refine z_iload_n hc d_Tape_tokenBegunBy_0 0 rfl ?_
  refine z_bipush (v := (iI 97)) hc d_Tape_tokenBegunBy_1 (by decide) ?_
  refine z_icmp_lt (tgt := 14) hc d_Tape_tokenBegunBy_3 (by decide) (fun hq => ?_) (fun hq => ?_)
  · have hf := ifp hq hf
    refine z_sub [0] (L' := [(0, .int x0)]) rfl ?_
    exact sj_Tape_tokenBegunBy_14 hc x0    σ _ hf hρ
  · have hf := ifn hq hf
    refine z_iload_n hc d_Tape_tokenBegunBy_6 0 rfl ?_
    refine z_bipush (v := (iI 122)) hc d_Tape_tokenBegunBy_7 (by decide) ?_
    refine z_icmp_gt (tgt := 14) hc d_Tape_tokenBegunBy_9 (by decide) (fun hq => ?_) (fun hq => ?_)
    · have hf := ifp hq hf
      refine z_sub [0] (L' := [(0, .int x0)]) rfl ?_
      exact sj_Tape_tokenBegunBy_14 hc x0    σ _ hf hρ
    · have hf := ifn hq hf
      refine z_iconst (v := (iI 1)) hc d_Tape_tokenBegunBy_12 (by decide) ?_
      exact z_iret hc d_Tape_tokenBegunBy_13 (rI hf hρ)
theorem vl_Tape_28 : SL R_Tape 28 y_Tape_tokenBegunBy c_Tape_tokenBegunBy 1 (some .int) 1 := ⟨tb3 189 (by decide +kernel) (by decide +kernel), tb3 190 (by decide +kernel) (by decide +kernel), tb1 10 (by decide +kernel) (by decide +kernel), k_Tape_tokenBegunBy, by decide, by decide, by decide +kernel, by decide⟩
theorem cz_Tape_28 {x : Cx} {g : Gv} {cc : ByteArray} {nL d pc : Nat} {ret : Option FieldType} {ρ : Option Value × Sg} {L : List (Nat × Value)} {st : List Value} {σ : Sg} (hc : Zc x g cc R_Tape nL ret d) (hd : decode cc pc = .ok (.invokestatic 28, 3)) (hdd : 1 ≤ d) {x0 : Int32} {v : Int32} {σ1 : Sg} (hf : f_Tape_tokenBegunBy x0 σ = some (v, σ1)) (hst : (st.map (fun v => v.category)).sum ≤ 8) (k : Z x g nL ρ (pc + 3) L (.int v :: st) σ1) : Z x g nL ρ pc L (.int x0 :: st) σ := z_callS (As := [.int x0]) hc hd vl_Tape_28 hdd (ok_Tape_tokenBegunBy g x0 σ (v, σ1) hf) rfl rfl hst rfl k
def b_Tape_toNextToken_8 (σ : Sg) : Option ((Sg) ⊕ (Sg)) :=
  (if (σ.1 4 0 0 0) ≤ (σ.1 4 0 0 2) then some (.inr σ) else Option.bind (rd (σ.1 4 0 0 2) 120) (fun j1 => (if (σ.1 15 0 0 j1) = (iI 32) then some (.inl (upI σ 4 0 0 2 ((σ.1 4 0 0 2) + (iI 1)))) else some (.inr σ))))
theorem sb_Tape_toNextToken_8 {x : Cx} {g : Gv} {ρ : Option Value × Sg} (hc : Zc x g c_Tape_toNextToken R_Tape 2 none 1) (σ : Sg) (r : (Sg) ⊕ (Sg)) (hf : b_Tape_toNextToken_8 σ = some r) (hi : ∀ a', r = .inl a' → Z x g 2 ρ 8 [(0, .ref (gAd g (4, 0, 0)))] [] a') (he0 : ∀ b, r = .inr b → Z x g 2 ρ 46 [(0, .ref (gAd g (4, 0, 0)))] [] b) : Z x g 2 ρ 8 [(0, .ref (gAd g (4, 0, 0)))] [] σ := by
  unfold b_Tape_toNextToken_8 at hf
  refine z_aload_n hc d_Tape_toNextToken_8 0 rfl ?_
  refine gf_Tape_25 hc d_Tape_toNextToken_9  ?_
  refine z_aload_n hc d_Tape_toNextToken_12 0 rfl ?_
  refine gf_Tape_15 hc d_Tape_toNextToken_13  ?_
  refine z_icmp_ge (tgt := 46) hc d_Tape_toNextToken_16 (by decide) (fun hq => ?_) (fun hq => ?_)
  · have hf := ifp hq hf
    refine z_sub [0] (L' := [(0, .ref (gAd g (4, 0, 0)))]) rfl ?_
    exact he0 σ (Option.some.inj hf).symm
  · have hf := ifn hq hf
    refine z_aload_n hc d_Tape_toNextToken_19 0 rfl ?_
    refine gf_Tape_9 hc d_Tape_toNextToken_20  ?_
    refine z_aload_n hc d_Tape_toNextToken_23 0 rfl ?_
    refine gf_Tape_25 hc d_Tape_toNextToken_24  ?_
    obtain ⟨j1, hj2, hf⟩ := bd hf
    refine ald_bytes hc d_Tape_toNextToken_27  hj2 ?_
    refine z_bipush (v := (iI 32)) hc d_Tape_toNextToken_28 (by decide) ?_
    refine z_icmp_ne (tgt := 46) hc d_Tape_toNextToken_30 (by decide) (fun hq => ?_) (fun hq => ?_)
    · have hf := ifn hq hf
      refine z_sub [0] (L' := [(0, .ref (gAd g (4, 0, 0)))]) rfl ?_
      exact he0 σ (Option.some.inj hf).symm
    · have hf := ifp hq hf
      refine z_aload_n hc d_Tape_toNextToken_33 0 rfl ?_
      refine z_dup hc d_Tape_toNextToken_34 rfl ?_
      refine gf_Tape_25 hc d_Tape_toNextToken_35  ?_
      refine z_iconst (v := (iI 1)) hc d_Tape_toNextToken_38 (by decide) ?_
      refine z_iadd hc d_Tape_toNextToken_39 ?_
      refine pf_Tape_25 hc d_Tape_toNextToken_40  ?_
      refine z_goto (tgt := 8) hc d_Tape_toNextToken_43 (by decide) ?_
      refine z_sub [0] (L' := [(0, .ref (gAd g (4, 0, 0)))]) rfl ?_
      exact hi (upI σ 4 0 0 2 ((σ.1 4 0 0 2) + (iI 1))) (Option.some.inj hf).symm
def j_Tape_toNextToken_204 (x1 : Int32) (σ : Sg) : Option ((Sg) ⊕ (Sg)) :=
  some (.inl (upI σ 4 0 0 3 ((σ.1 4 0 0 3) + (iI 1))))
theorem sj_Tape_toNextToken_204 {x : Cx} {g : Gv} {ρ : Option Value × Sg} (hc : Zc x g c_Tape_toNextToken R_Tape 2 none 1) (x1 : Int32) (σ : Sg) (r : (Sg) ⊕ (Sg)) (hf : j_Tape_toNextToken_204 x1 σ = some r) (hi : ∀ a', r = .inl a' → Z x g 2 ρ 132 [(0, .ref (gAd g (4, 0, 0))), (1, .int x1)] [] a') (he0 : ∀ b, r = .inr b → Z x g 2 ρ 217 [] [] b) : Z x g 2 ρ 204 [(0, .ref (gAd g (4, 0, 0))), (1, .int x1)] [] σ := by
  unfold j_Tape_toNextToken_204 at hf
  refine z_aload_n hc d_Tape_toNextToken_204 0 rfl ?_
  refine z_dup hc d_Tape_toNextToken_205 rfl ?_
  refine gf_Tape_19 hc d_Tape_toNextToken_206  ?_
  refine z_iconst (v := (iI 1)) hc d_Tape_toNextToken_209 (by decide) ?_
  refine z_iadd hc d_Tape_toNextToken_210 ?_
  refine pf_Tape_19 hc d_Tape_toNextToken_211  ?_
  refine z_goto (tgt := 132) hc d_Tape_toNextToken_214 (by decide) ?_
  refine z_sub [0, 1] (L' := [(0, .ref (gAd g (4, 0, 0))), (1, .int x1)]) rfl ?_
  exact hi (upI σ 4 0 0 3 ((σ.1 4 0 0 3) + (iI 1))) (Option.some.inj hf).symm
def b_Tape_toNextToken_132 (x1 : Int32) (σ : Sg) : Option ((Sg) ⊕ (Sg)) :=
  (if x1 = (iI 0) then some (.inr σ) else (if (σ.1 4 0 0 0) ≤ (σ.1 4 0 0 3) then some (.inr σ) else Option.bind (rd (σ.1 4 0 0 3) 120) (fun j5 => b2 (f_Tape_tokenBegunBy (σ.1 15 0 0 j5) σ) (fun v7 σ8 => (if v7 = (σ8.1 4 0 0 1) then (if (σ8.1 4 0 0 1) = (iI 2) then Option.bind (rd (σ8.1 4 0 0 3) 120) (fun j10 => j_Tape_toNextToken_204 x1  (upI σ8 4 0 0 4 (if ((((iI 10) * (σ8.1 4 0 0 4)) + (σ8.1 15 0 0 j10)) - (iI 48)) < (iI 1000) then ((((iI 10) * (σ8.1 4 0 0 4)) + (σ8.1 15 0 0 j10)) - (iI 48)) else (iI 1000)))) else j_Tape_toNextToken_204 x1  σ8) else some (.inr σ8))))))
theorem sb_Tape_toNextToken_132 {x : Cx} {g : Gv} {ρ : Option Value × Sg} (hc : Zc x g c_Tape_toNextToken R_Tape 2 none 1) (x1 : Int32) (σ : Sg) (r : (Sg) ⊕ (Sg)) (hf : b_Tape_toNextToken_132 x1 σ = some r) (hi : ∀ a', r = .inl a' → Z x g 2 ρ 132 [(0, .ref (gAd g (4, 0, 0))), (1, .int x1)] [] a') (he0 : ∀ b, r = .inr b → Z x g 2 ρ 217 [] [] b) : Z x g 2 ρ 132 [(0, .ref (gAd g (4, 0, 0))), (1, .int x1)] [] σ := by
  unfold b_Tape_toNextToken_132 at hf
  refine z_iload_n hc d_Tape_toNextToken_132 1 rfl ?_
  refine z_if_eq (tgt := 217) hc d_Tape_toNextToken_133 (by decide) (fun hq => ?_) (fun hq => ?_)
  · have hf := ifp hq hf
    refine z_sub [] (L' := []) rfl ?_
    exact he0 σ (Option.some.inj hf).symm
  · have hf := ifn hq hf
    refine z_aload_n hc d_Tape_toNextToken_136 0 rfl ?_
    refine gf_Tape_19 hc d_Tape_toNextToken_137  ?_
    refine z_aload_n hc d_Tape_toNextToken_140 0 rfl ?_
    refine gf_Tape_15 hc d_Tape_toNextToken_141  ?_
    refine z_icmp_ge (tgt := 217) hc d_Tape_toNextToken_144 (by decide) (fun hq => ?_) (fun hq => ?_)
    · have hf := ifp hq hf
      refine z_sub [] (L' := []) rfl ?_
      exact he0 σ (Option.some.inj hf).symm
    · have hf := ifn hq hf
      refine z_aload_n hc d_Tape_toNextToken_147 0 rfl ?_
      refine gf_Tape_9 hc d_Tape_toNextToken_148  ?_
      refine z_aload_n hc d_Tape_toNextToken_151 0 rfl ?_
      refine gf_Tape_19 hc d_Tape_toNextToken_152  ?_
      obtain ⟨j5, hj6, hf⟩ := bd hf
      refine ald_bytes hc d_Tape_toNextToken_155  hj6 ?_
      obtain ⟨v7, σ8, h9, hf⟩ := bd2 hf
      refine cz_Tape_28 hc d_Tape_toNextToken_156 (by decide)  h9 (Nat.le_of_ble_eq_true rfl) ?_
      refine z_aload_n hc d_Tape_toNextToken_159 0 rfl ?_
      refine gf_Tape_32 hc d_Tape_toNextToken_160  ?_
      refine z_icmp_ne (tgt := 217) hc d_Tape_toNextToken_163 (by decide) (fun hq => ?_) (fun hq => ?_)
      · have hf := ifn hq hf
        refine z_sub [] (L' := []) rfl ?_
        exact he0 σ8 (Option.some.inj hf).symm
      · have hf := ifp hq hf
        refine z_aload_n hc d_Tape_toNextToken_166 0 rfl ?_
        refine gf_Tape_32 hc d_Tape_toNextToken_167  ?_
        refine z_iconst (v := (iI 2)) hc d_Tape_toNextToken_170 (by decide) ?_
        refine z_icmp_ne (tgt := 204) hc d_Tape_toNextToken_171 (by decide) (fun hq => ?_) (fun hq => ?_)
        · have hf := ifn hq hf
          refine z_sub [0, 1] (L' := [(0, .ref (gAd g (4, 0, 0))), (1, .int x1)]) rfl ?_
          exact sj_Tape_toNextToken_204 hc x1    σ8 _ hf hi he0
        · have hf := ifp hq hf
          refine z_aload_n hc d_Tape_toNextToken_174 0 rfl ?_
          refine z_sipush (v := (iI 1000)) hc d_Tape_toNextToken_175 (by decide) ?_
          refine z_bipush (v := (iI 10)) hc d_Tape_toNextToken_178 (by decide) ?_
          refine z_aload_n hc d_Tape_toNextToken_180 0 rfl ?_
          refine gf_Tape_41 hc d_Tape_toNextToken_181  ?_
          refine z_imul hc d_Tape_toNextToken_184 ?_
          refine z_aload_n hc d_Tape_toNextToken_185 0 rfl ?_
          refine gf_Tape_9 hc d_Tape_toNextToken_186  ?_
          refine z_aload_n hc d_Tape_toNextToken_189 0 rfl ?_
          refine gf_Tape_19 hc d_Tape_toNextToken_190  ?_
          obtain ⟨j10, hj11, hf⟩ := bd hf
          refine ald_bytes hc d_Tape_toNextToken_193  hj11 ?_
          refine z_iadd hc d_Tape_toNextToken_194 ?_
          refine z_bipush (v := (iI 48)) hc d_Tape_toNextToken_195 (by decide) ?_
          refine z_isub hc d_Tape_toNextToken_197 ?_
          refine z_min hc d_Tape_toNextToken_198 ml_Tape_35 (by decide) (Nat.le_of_ble_eq_true rfl) ?_
          refine pf_Tape_41 hc d_Tape_toNextToken_201  ?_
          refine z_sub [0, 1] (L' := [(0, .ref (gAd g (4, 0, 0))), (1, .int x1)]) rfl ?_
          exact sj_Tape_toNextToken_204 hc x1    (upI σ8 4 0 0 4 (if ((((iI 10) * (σ8.1 4 0 0 4)) + (σ8.1 15 0 0 j10)) - (iI 48)) < (iI 1000) then ((((iI 10) * (σ8.1 4 0 0 4)) + (σ8.1 15 0 0 j10)) - (iI 48)) else (iI 1000))) _ hf hi he0
def j_Tape_toNextToken_124 (x1 : Int32) (xs0 : Int32) (σ : Sg) : Option (Unit × Sg) :=
  Option.bind (lp (fun a => b_Tape_toNextToken_132 x1 a) FU (upI (upI σ 4 0 0 3 xs0) 4 0 0 4 (iI 0))) (fun b14 => some ((), b14))
theorem sj_Tape_toNextToken_124 {x : Cx} {g : Gv} {ρ : Option Value × Sg} (hc : Zc x g c_Tape_toNextToken R_Tape 2 none 1) (x1 : Int32) (xs0 : Int32) (σ : Sg) (r : Unit × Sg) (hf : j_Tape_toNextToken_124 x1 xs0 σ = some r) (hρ : ρ = (none, r.2)) : Z x g 2 ρ 124 [(0, .ref (gAd g (4, 0, 0))), (1, .int x1)] [.int xs0, .ref (gAd g (4, 0, 0))] σ := by
  unfold j_Tape_toNextToken_124 at hf
  refine pf_Tape_19 hc d_Tape_toNextToken_124  ?_
  refine z_aload_n hc d_Tape_toNextToken_127 0 rfl ?_
  refine z_iconst (v := (iI 0)) hc d_Tape_toNextToken_128 (by decide) ?_
  refine pf_Tape_41 hc d_Tape_toNextToken_129  ?_
  refine z_sub [0, 1] (L' := [(0, .ref (gAd g (4, 0, 0))), (1, .int x1)]) rfl ?_
  obtain ⟨σ13, hl15, hf⟩ := bd hf
  try dsimp only at hf
  refine lp_walk (α := (Sg)) (β := (Sg)) (body := (fun a : (Sg) => b_Tape_toNextToken_132 x1 a)) (In := (fun a : (Sg) => Z x g 2 ρ 132 [(0, .ref (gAd g (4, 0, 0))), (1, .int x1)] [] a)) (Out := (fun b => Z x g 2 ρ 217 [] [] b)) (fun a r hb hi ho => sb_Tape_toNextToken_132 hc x1  a r hb hi (fun b e => ho _ e)) FU (upI (upI σ 4 0 0 3 xs0) 4 0 0 4 (iI 0)) _ hl15 ?_
  exact z_vret hc d_Tape_toNextToken_217 (rV hf hρ)
def j_Tape_toNextToken_98 (xs0 : Int32) (σ : Sg) : Option (Unit × Sg) :=
  (if xs0 = (iI 0) then j_Tape_toNextToken_124 xs0 (if ((σ.1 4 0 0 2) + (iI 1)) < (σ.1 4 0 0 0) then ((σ.1 4 0 0 2) + (iI 1)) else (σ.1 4 0 0 0)) σ else j_Tape_toNextToken_124 xs0 (σ.1 4 0 0 2) σ)
theorem sj_Tape_toNextToken_98 {x : Cx} {g : Gv} {ρ : Option Value × Sg} (hc : Zc x g c_Tape_toNextToken R_Tape 2 none 1) (xs0 : Int32) (σ : Sg) (r : Unit × Sg) (hf : j_Tape_toNextToken_98 xs0 σ = some r) (hρ : ρ = (none, r.2)) : Z x g 2 ρ 98 [(0, .ref (gAd g (4, 0, 0)))] [.int xs0] σ := by
  unfold j_Tape_toNextToken_98 at hf
  refine z_istore_n (L' := [(1, .int xs0), (0, .ref (gAd g (4, 0, 0)))]) hc d_Tape_toNextToken_98 (by decide) rfl ?_
  refine z_aload_n hc d_Tape_toNextToken_99 1 rfl ?_
  refine z_iload_n hc d_Tape_toNextToken_100 0 rfl ?_
  refine z_if_eq (tgt := 111) hc d_Tape_toNextToken_101 (by decide) (fun hq => ?_) (fun hq => ?_)
  · have hf := ifp hq hf
    refine z_aload_n hc d_Tape_toNextToken_111 1 rfl ?_
    refine gf_Tape_15 hc d_Tape_toNextToken_112  ?_
    refine z_aload_n hc d_Tape_toNextToken_115 1 rfl ?_
    refine gf_Tape_25 hc d_Tape_toNextToken_116  ?_
    refine z_iconst (v := (iI 1)) hc d_Tape_toNextToken_119 (by decide) ?_
    refine z_iadd hc d_Tape_toNextToken_120 ?_
    refine z_min hc d_Tape_toNextToken_121 ml_Tape_35 (by decide) (Nat.le_of_ble_eq_true rfl) ?_
    refine z_sub [1, 0] (L' := [(0, .ref (gAd g (4, 0, 0))), (1, .int xs0)]) rfl ?_
    exact sj_Tape_toNextToken_124 hc xs0 (if ((σ.1 4 0 0 2) + (iI 1)) < (σ.1 4 0 0 0) then ((σ.1 4 0 0 2) + (iI 1)) else (σ.1 4 0 0 0))   σ _ hf hρ
  · have hf := ifn hq hf
    refine z_aload_n hc d_Tape_toNextToken_104 1 rfl ?_
    refine gf_Tape_25 hc d_Tape_toNextToken_105  ?_
    refine z_goto (tgt := 124) hc d_Tape_toNextToken_108 (by decide) ?_
    refine z_sub [1, 0] (L' := [(0, .ref (gAd g (4, 0, 0))), (1, .int xs0)]) rfl ?_
    exact sj_Tape_toNextToken_124 hc xs0 (σ.1 4 0 0 2)   σ _ hf hρ
def j_Tape_toNextToken_74 (xs0 : Int32) (σ : Sg) : Option (Unit × Sg) :=
  (if ((upI σ 4 0 0 1 xs0).1 4 0 0 1) = (iI 1) then j_Tape_toNextToken_98  (iI 1) (upI σ 4 0 0 1 xs0) else (if ((upI σ 4 0 0 1 xs0).1 4 0 0 1) = (iI 2) then j_Tape_toNextToken_98  (iI 1) (upI σ 4 0 0 1 xs0) else j_Tape_toNextToken_98  (iI 0) (upI σ 4 0 0 1 xs0)))
theorem sj_Tape_toNextToken_74 {x : Cx} {g : Gv} {ρ : Option Value × Sg} (hc : Zc x g c_Tape_toNextToken R_Tape 2 none 1) (xs0 : Int32) (σ : Sg) (r : Unit × Sg) (hf : j_Tape_toNextToken_74 xs0 σ = some r) (hρ : ρ = (none, r.2)) : Z x g 2 ρ 74 [(0, .ref (gAd g (4, 0, 0)))] [.int xs0, .ref (gAd g (4, 0, 0))] σ := by
  unfold j_Tape_toNextToken_74 at hf
  refine pf_Tape_32 hc d_Tape_toNextToken_74  ?_
  refine z_aload_n hc d_Tape_toNextToken_77 0 rfl ?_
  refine gf_Tape_32 hc d_Tape_toNextToken_78  ?_
  refine z_iconst (v := (iI 1)) hc d_Tape_toNextToken_81 (by decide) ?_
  refine z_icmp_eq (tgt := 93) hc d_Tape_toNextToken_82 (by decide) (fun hq => ?_) (fun hq => ?_)
  · have hf := ifp hq hf
    refine z_iconst (v := (iI 1)) hc d_Tape_toNextToken_93 (by decide) ?_
    refine z_goto (tgt := 98) hc d_Tape_toNextToken_94 (by decide) ?_
    refine z_sub [0] (L' := [(0, .ref (gAd g (4, 0, 0)))]) rfl ?_
    exact sj_Tape_toNextToken_98 hc  (iI 1)   (upI σ 4 0 0 1 xs0) _ hf hρ
  · have hf := ifn hq hf
    refine z_aload_n hc d_Tape_toNextToken_85 0 rfl ?_
    refine gf_Tape_32 hc d_Tape_toNextToken_86  ?_
    refine z_iconst (v := (iI 2)) hc d_Tape_toNextToken_89 (by decide) ?_
    refine z_icmp_ne (tgt := 97) hc d_Tape_toNextToken_90 (by decide) (fun hq => ?_) (fun hq => ?_)
    · have hf := ifn hq hf
      refine z_iconst (v := (iI 0)) hc d_Tape_toNextToken_97 (by decide) ?_
      refine z_sub [0] (L' := [(0, .ref (gAd g (4, 0, 0)))]) rfl ?_
      exact sj_Tape_toNextToken_98 hc  (iI 0)   (upI σ 4 0 0 1 xs0) _ hf hρ
    · have hf := ifp hq hf
      refine z_iconst (v := (iI 1)) hc d_Tape_toNextToken_93 (by decide) ?_
      refine z_goto (tgt := 98) hc d_Tape_toNextToken_94 (by decide) ?_
      refine z_sub [0] (L' := [(0, .ref (gAd g (4, 0, 0)))]) rfl ?_
      exact sj_Tape_toNextToken_98 hc  (iI 1)   (upI σ 4 0 0 1 xs0) _ hf hρ
def j_Tape_toNextToken_46 (σ : Sg) : Option (Unit × Sg) :=
  (if (σ.1 4 0 0 0) ≤ (σ.1 4 0 0 2) then j_Tape_toNextToken_74  (iI 0) σ else Option.bind (rd (σ.1 4 0 0 2) 120) (fun j16 => b2 (f_Tape_tokenBegunBy (σ.1 15 0 0 j16) σ) (fun v18 σ19 => j_Tape_toNextToken_74  v18 σ19)))
theorem sj_Tape_toNextToken_46 {x : Cx} {g : Gv} {ρ : Option Value × Sg} (hc : Zc x g c_Tape_toNextToken R_Tape 2 none 1) (σ : Sg) (r : Unit × Sg) (hf : j_Tape_toNextToken_46 σ = some r) (hρ : ρ = (none, r.2)) : Z x g 2 ρ 46 [(0, .ref (gAd g (4, 0, 0)))] [] σ := by
  unfold j_Tape_toNextToken_46 at hf
  refine z_aload_n hc d_Tape_toNextToken_46 0 rfl ?_
  refine z_aload_n hc d_Tape_toNextToken_47 0 rfl ?_
  refine gf_Tape_25 hc d_Tape_toNextToken_48  ?_
  refine z_aload_n hc d_Tape_toNextToken_51 0 rfl ?_
  refine gf_Tape_15 hc d_Tape_toNextToken_52  ?_
  refine z_icmp_ge (tgt := 73) hc d_Tape_toNextToken_55 (by decide) (fun hq => ?_) (fun hq => ?_)
  · have hf := ifp hq hf
    refine z_iconst (v := (iI 0)) hc d_Tape_toNextToken_73 (by decide) ?_
    refine z_sub [0] (L' := [(0, .ref (gAd g (4, 0, 0)))]) rfl ?_
    exact sj_Tape_toNextToken_74 hc  (iI 0)   σ _ hf hρ
  · have hf := ifn hq hf
    refine z_aload_n hc d_Tape_toNextToken_58 0 rfl ?_
    refine gf_Tape_9 hc d_Tape_toNextToken_59  ?_
    refine z_aload_n hc d_Tape_toNextToken_62 0 rfl ?_
    refine gf_Tape_25 hc d_Tape_toNextToken_63  ?_
    obtain ⟨j16, hj17, hf⟩ := bd hf
    refine ald_bytes hc d_Tape_toNextToken_66  hj17 ?_
    obtain ⟨v18, σ19, h20, hf⟩ := bd2 hf
    refine cz_Tape_28 hc d_Tape_toNextToken_67 (by decide)  h20 (Nat.le_of_ble_eq_true rfl) ?_
    refine z_goto (tgt := 74) hc d_Tape_toNextToken_70 (by decide) ?_
    refine z_sub [0] (L' := [(0, .ref (gAd g (4, 0, 0)))]) rfl ?_
    exact sj_Tape_toNextToken_74 hc  v18   σ19 _ hf hρ
def f_Tape_toNextToken (σ : Sg) : Option (Unit × Sg) :=
  Option.bind (lp (fun a => b_Tape_toNextToken_8  a) FU (upI σ 4 0 0 2 (σ.1 4 0 0 3))) (fun b21 => j_Tape_toNextToken_46   b21)
theorem ok_Tape_toNextToken (g : Gv) (σ : Sg) (r : Unit × Sg) (hf : f_Tape_toNextToken σ = some r) : Ok g y_Tape_toNextToken c_Tape_toNextToken 2 none 1 [.ref (gAd g (4, 0, 0))] σ (none, r.2) := by
  unfold f_Tape_toNextToken at hf
  refine Ok.of [(0, .ref (gAd g (4, 0, 0)))] (by decide) (Nat.le_of_ble_eq_true rfl) rfl ?_
  intro x hc
  have hc : Zc x g c_Tape_toNextToken R_Tape 2 none 1 := hc
  obtain ⟨ρ, hρ⟩ : ∃ ρ : Option Value × Sg, ρ = (none, r.2) := ⟨_, rfl⟩
  rw [← hρ]
  refine z_aload_n hc d_Tape_toNextToken_0 0 rfl ?_
  refine z_aload_n hc d_Tape_toNextToken_1 0 rfl ?_
  refine gf_Tape_19 hc d_Tape_toNextToken_2  ?_
  refine pf_Tape_25 hc d_Tape_toNextToken_5  ?_
  refine z_sub [0] (L' := [(0, .ref (gAd g (4, 0, 0)))]) rfl ?_
  obtain ⟨σ4, hl22, hf⟩ := bd hf
  try dsimp only at hf
  refine lp_walk (α := (Sg)) (β := (Sg)) (body := (fun a : (Sg) => b_Tape_toNextToken_8  a)) (In := (fun a : (Sg) => Z x g 2 ρ 8 [(0, .ref (gAd g (4, 0, 0)))] [] a)) (Out := (fun b => Z x g 2 ρ 46 [(0, .ref (gAd g (4, 0, 0)))] [] b)) (fun a r hb hi ho => sb_Tape_toNextToken_8 hc   a r hb hi (fun b e => ho _ e)) FU (upI σ 4 0 0 2 (σ.1 4 0 0 3)) _ hl22 ?_
  refine z_sub [0] (L' := [(0, .ref (gAd g (4, 0, 0)))]) rfl ?_
  exact sj_Tape_toNextToken_46 hc     σ4 _ hf hρ
theorem vl_Tape_22 : VL R_Tape 22 y_Tape_toNextToken c_Tape_toNextToken 2 none 0 := ⟨tb3 185 (by decide +kernel) (by decide +kernel), tb3 186 (by decide +kernel) (by decide +kernel), tb3 187 (by decide +kernel) (by decide +kernel), tb1 10 (by decide +kernel) (by decide +kernel), k_Tape_toNextToken, by decide, by decide, by decide +kernel, by decide⟩
theorem cz_Tape_22 {x : Cx} {g : Gv} {cc : ByteArray} {nL d pc : Nat} {ret : Option FieldType} {ρ : Option Value × Sg} {L : List (Nat × Value)} {st : List Value} {σ : Sg} (hc : Zc x g cc R_Tape nL ret d) (hd : decode cc pc = .ok (.invokevirtual 22, 3)) (hdd : 2 ≤ d) {v : Unit} {σ1 : Sg} (hf : f_Tape_toNextToken σ = some (v, σ1)) (hst : (st.map (fun v => v.category)).sum ≤ 8) (k : Z x g nL ρ (pc + 3) L (st) σ1) : Z x g nL ρ pc L (.ref (gAd g (4, 0, 0)) :: st) σ := z_callV (ci := 7) (As := []) hc hd vl_Tape_22 hdd (4, 0, 0) (dm_Tape) rfl rfl (ok_Tape_toNextToken g σ (v, σ1) hf) rfl rfl hst rfl k
def f_Tape_toFirstToken (σ : Sg) : Option (Unit × Sg) :=
  b2 (f_Tape_toNextToken  (upI σ 4 0 0 3 (iI 0))) (fun v1 σ2 => some ((), σ2))
theorem ok_Tape_toFirstToken (g : Gv) (σ : Sg) (r : Unit × Sg) (hf : f_Tape_toFirstToken σ = some r) : Ok g y_Tape_toFirstToken c_Tape_toFirstToken 1 none 2 [.ref (gAd g (4, 0, 0))] σ (none, r.2) := by
  unfold f_Tape_toFirstToken at hf
  refine Ok.of [(0, .ref (gAd g (4, 0, 0)))] (by decide) (Nat.le_of_ble_eq_true rfl) rfl ?_
  intro x hc
  have hc : Zc x g c_Tape_toFirstToken R_Tape 1 none 2 := hc
  obtain ⟨ρ, hρ⟩ : ∃ ρ : Option Value × Sg, ρ = (none, r.2) := ⟨_, rfl⟩
  rw [← hρ]
  refine z_aload_n hc d_Tape_toFirstToken_0 0 rfl ?_
  refine z_iconst (v := (iI 0)) hc d_Tape_toFirstToken_1 (by decide) ?_
  refine pf_Tape_19 hc d_Tape_toFirstToken_2  ?_
  refine z_aload_n hc d_Tape_toFirstToken_5 0 rfl ?_
  obtain ⟨v1, σ2, h3, hf⟩ := bd2 hf
  refine cz_Tape_22 hc d_Tape_toFirstToken_6 (by decide)  h3 (Nat.le_of_ble_eq_true rfl) ?_
  exact z_vret hc d_Tape_toFirstToken_9 (rV hf hρ)
def b_Tape_isWord_28 (t1 : Nat) (x2 : Int32) (σ : Sg) : Option ((Int32 × Sg) ⊕ ((Sg) ⊕ (Sg))) :=
  (if (nI (lenK.getD t1 0)) ≤ x2 then some (.inr (.inr σ)) else Option.bind (rd ((σ.1 4 0 0 2) + x2) 120) (fun j1 => Option.bind (rd x2 (lenK.getD t1 0)) (fun j3 => (if (σ.1 15 0 0 j1) = (sCh t1 j3) then some (.inl (x2 + (iI 1), σ)) else some (.inr (.inl σ))))))
theorem sb_Tape_isWord_28 {x : Cx} {g : Gv} {ρ : Option Value × Sg} (hc : Zc x g c_Tape_isWord R_Tape 3 (some .boolean) 5) (t1 : Nat) (ht1 : t1 < 12) (x2 : Int32) (σ : Sg) (r : (Int32 × Sg) ⊕ ((Sg) ⊕ (Sg))) (hf : b_Tape_isWord_28 t1 x2 σ = some r) (hi : ∀ a', r = .inl a' → Z x g 3 ρ 28 [(0, .ref (gAd g (4, 0, 0))), (1, .ref (g.2.2.2.1 t1)), (2, .int a'.1)] [] a'.2) (he0 : ∀ b, r = .inr (.inl b) → Z x g 3 ρ 55 [] [] b) (he1 : ∀ b, r = .inr (.inr b) → Z x g 3 ρ 63 [] [] b) : Z x g 3 ρ 28 [(0, .ref (gAd g (4, 0, 0))), (1, .ref (g.2.2.2.1 t1)), (2, .int x2)] [] σ := by
  unfold b_Tape_isWord_28 at hf
  refine z_iload_n hc d_Tape_isWord_28 2 rfl ?_
  refine z_aload_n hc d_Tape_isWord_29 1 rfl ?_
  refine sz_len hc d_Tape_isWord_30 (sl_Tape_44) (by decide) ht1 (Nat.le_of_ble_eq_true rfl) ?_
  refine z_icmp_ge (tgt := 63) hc d_Tape_isWord_33 (by decide) (fun hq => ?_) (fun hq => ?_)
  · have hf := ifp hq hf
    refine z_sub [] (L' := []) rfl ?_
    exact he1 σ (Option.some.inj hf).symm
  · have hf := ifn hq hf
    refine z_aload_n hc d_Tape_isWord_36 0 rfl ?_
    refine gf_Tape_9 hc d_Tape_isWord_37  ?_
    refine z_aload_n hc d_Tape_isWord_40 0 rfl ?_
    refine gf_Tape_25 hc d_Tape_isWord_41  ?_
    refine z_iload_n hc d_Tape_isWord_44 2 rfl ?_
    refine z_iadd hc d_Tape_isWord_45 ?_
    obtain ⟨j1, hj2, hf⟩ := bd hf
    refine ald_bytes hc d_Tape_isWord_46  hj2 ?_
    refine z_aload_n hc d_Tape_isWord_47 1 rfl ?_
    refine z_iload_n hc d_Tape_isWord_48 2 rfl ?_
    obtain ⟨j3, hj4, hf⟩ := bd hf
    refine sz_chr hc d_Tape_isWord_49 (sl_Tape_49) (by decide) ht1 hj4 (Nat.le_of_ble_eq_true rfl) ?_
    refine z_icmp_eq (tgt := 57) hc d_Tape_isWord_52 (by decide) (fun hq => ?_) (fun hq => ?_)
    · have hf := ifp hq hf
      refine z_iinc (v := x2 + (iI 1)) (L' := [(2, .int (x2 + (iI 1))), (0, .ref (gAd g (4, 0, 0))), (1, .ref (g.2.2.2.1 t1))]) hc d_Tape_isWord_57 2 rfl rfl (by decide) rfl ?_
      refine z_goto (tgt := 28) hc d_Tape_isWord_60 (by decide) ?_
      refine z_sub [1, 2, 0] (L' := [(0, .ref (gAd g (4, 0, 0))), (1, .ref (g.2.2.2.1 t1)), (2, .int (x2 + (iI 1)))]) rfl ?_
      exact hi (x2 + (iI 1), σ) (Option.some.inj hf).symm
    · have hf := ifn hq hf
      refine z_sub [] (L' := []) rfl ?_
      exact he0 σ (Option.some.inj hf).symm
def f_Tape_isWord (t1 : Nat) (σ : Sg) : Option (Int32 × Sg) :=
  (if (σ.1 4 0 0 1) = (iI 1) then (if ((σ.1 4 0 0 3) - (σ.1 4 0 0 2)) = (nI (lenK.getD t1 0)) then Option.bind (lp (fun a => b_Tape_isWord_28 t1 a.1 a.2) FU ((iI 0), σ)) (fun z => Sum.elim (fun b8 => some ((iI 0), b8)) (fun b9 => some ((iI 1), b9)) z) else some ((iI 0), σ)) else some ((iI 0), σ))
theorem ok_Tape_isWord (g : Gv) (t1 : Nat) (ht1 : t1 < 12) (σ : Sg) (r : Int32 × Sg) (hf : f_Tape_isWord t1 σ = some r) : Ok g y_Tape_isWord c_Tape_isWord 3 (some .boolean) 5 [.ref (gAd g (4, 0, 0)), .ref (g.2.2.2.1 t1)] σ (some (.int r.1), r.2) := by
  unfold f_Tape_isWord at hf
  refine Ok.of [(0, .ref (gAd g (4, 0, 0))), (1, .ref (g.2.2.2.1 t1))] (by decide) (Nat.le_of_ble_eq_true rfl) rfl ?_
  intro x hc
  have hc : Zc x g c_Tape_isWord R_Tape 3 (some .boolean) 5 := hc
  obtain ⟨ρ, hρ⟩ : ∃ ρ : Option Value × Sg, ρ = (some (.int r.1), r.2) := ⟨_, rfl⟩
  rw [← hρ]
  refine z_aload_n hc d_Tape_isWord_0 0 rfl ?_
  refine gf_Tape_32 hc d_Tape_isWord_1  ?_
  refine z_iconst (v := (iI 1)) hc d_Tape_isWord_4 (by decide) ?_
  refine z_icmp_ne (tgt := 24) hc d_Tape_isWord_5 (by decide) (fun hq => ?_) (fun hq => ?_)
  · have hf := ifn hq hf
    refine z_iconst (v := (iI 0)) hc d_Tape_isWord_24 (by decide) ?_
    exact z_zret hc d_Tape_isWord_25 (by decide) (rI hf hρ)
  · have hf := ifp hq hf
    refine z_aload_n hc d_Tape_isWord_8 0 rfl ?_
    refine gf_Tape_19 hc d_Tape_isWord_9  ?_
    refine z_aload_n hc d_Tape_isWord_12 0 rfl ?_
    refine gf_Tape_25 hc d_Tape_isWord_13  ?_
    refine z_isub hc d_Tape_isWord_16 ?_
    refine z_aload_n hc d_Tape_isWord_17 1 rfl ?_
    refine sz_len hc d_Tape_isWord_18 (sl_Tape_44) (by decide) ht1 (Nat.le_of_ble_eq_true rfl) ?_
    refine z_icmp_eq (tgt := 26) hc d_Tape_isWord_21 (by decide) (fun hq => ?_) (fun hq => ?_)
    · have hf := ifp hq hf
      refine z_iconst (v := (iI 0)) hc d_Tape_isWord_26 (by decide) ?_
      refine z_istore_n (L' := [(2, .int (iI 0)), (0, .ref (gAd g (4, 0, 0))), (1, .ref (g.2.2.2.1 t1))]) hc d_Tape_isWord_27 (by decide) rfl ?_
      refine z_sub [1, 2, 0] (L' := [(0, .ref (gAd g (4, 0, 0))), (1, .ref (g.2.2.2.1 t1)), (2, .int (iI 0))]) rfl ?_
      obtain ⟨q5, hl10, hf⟩ := bd hf
      refine lp_walk (α := (Int32 × Sg)) (β := ((Sg) ⊕ (Sg))) (body := (fun a : (Int32 × Sg) => b_Tape_isWord_28 t1 a.1 a.2)) (In := (fun a : (Int32 × Sg) => Z x g 3 ρ 28 [(0, .ref (gAd g (4, 0, 0))), (1, .ref (g.2.2.2.1 t1)), (2, .int a.1)] [] a.2)) (Out := (Sum.elim (fun b => Z x g 3 ρ 55 [] [] b) (fun b => Z x g 3 ρ 63 [] [] b))) (fun a r hb hi ho => sb_Tape_isWord_28 hc t1 ht1 a.1 a.2 r hb hi (fun b e => ho _ e) (fun b e => ho _ e)) FU ((iI 0), σ) _ hl10 ?_
      rcases q5 with σ6 | q5
      · try dsimp only [Sum.elim_inl, Sum.elim_inr] at hf
        try dsimp only [Sum.elim_inl, Sum.elim_inr]
        refine z_iconst (v := (iI 0)) hc d_Tape_isWord_55 (by decide) ?_
        exact z_zret hc d_Tape_isWord_56 (by decide) (rI hf hρ)
      try dsimp only [Sum.elim_inl, Sum.elim_inr] at hf
      try dsimp only [Sum.elim_inl, Sum.elim_inr]
      · obtain ⟨σ7, rfl⟩ : ∃ z, z = q5 := ⟨_, rfl⟩
        try dsimp only [Sum.elim_inl, Sum.elim_inr] at hf
        try dsimp only [Sum.elim_inl, Sum.elim_inr]
        refine z_iconst (v := (iI 1)) hc d_Tape_isWord_63 (by decide) ?_
        exact z_zret hc d_Tape_isWord_64 (by decide) (rI hf hρ)
    · have hf := ifn hq hf
      refine z_iconst (v := (iI 0)) hc d_Tape_isWord_24 (by decide) ?_
      exact z_zret hc d_Tape_isWord_25 (by decide) (rI hf hρ)
theorem vl_Tape_53 : VL R_Tape 53 y_Tape_isWord c_Tape_isWord 3 (some .boolean) 1 := ⟨tb3 201 (by decide +kernel) (by decide +kernel), tb3 202 (by decide +kernel) (by decide +kernel), tb3 203 (by decide +kernel) (by decide +kernel), tb1 10 (by decide +kernel) (by decide +kernel), k_Tape_isWord, by decide, by decide, by decide +kernel, by decide⟩
theorem cz_Tape_53 {x : Cx} {g : Gv} {cc : ByteArray} {nL d pc : Nat} {ret : Option FieldType} {ρ : Option Value × Sg} {L : List (Nat × Value)} {st : List Value} {σ : Sg} (hc : Zc x g cc R_Tape nL ret d) (hd : decode cc pc = .ok (.invokevirtual 53, 3)) (hdd : 6 ≤ d) {t1 : Nat} (ht1 : t1 < 12) {v : Int32} {σ1 : Sg} (hf : f_Tape_isWord t1 σ = some (v, σ1)) (hst : (st.map (fun v => v.category)).sum ≤ 8) (k : Z x g nL ρ (pc + 3) L (.int v :: st) σ1) : Z x g nL ρ pc L (.ref (g.2.2.2.1 t1) :: .ref (gAd g (4, 0, 0)) :: st) σ := z_callV (ci := 7) (As := [.ref (g.2.2.2.1 t1)]) hc hd vl_Tape_53 hdd (4, 0, 0) (dm_Tape) rfl rfl (ok_Tape_isWord g t1 ht1 σ (v, σ1) hf) rfl rfl hst rfl k
def f_Tape_passesWord (t1 : Nat) (σ : Sg) : Option (Int32 × Sg) :=
  b2 (f_Tape_isWord t1 σ) (fun v1 σ2 => (if v1 = (iI 0) then some ((iI 0), σ2) else b2 (f_Tape_toNextToken  σ2) (fun v4 σ5 => some ((iI 1), σ5))))
theorem ok_Tape_passesWord (g : Gv) (t1 : Nat) (ht1 : t1 < 12) (σ : Sg) (r : Int32 × Sg) (hf : f_Tape_passesWord t1 σ = some r) : Ok g y_Tape_passesWord c_Tape_passesWord 2 (some .boolean) 6 [.ref (gAd g (4, 0, 0)), .ref (g.2.2.2.1 t1)] σ (some (.int r.1), r.2) := by
  unfold f_Tape_passesWord at hf
  refine Ok.of [(0, .ref (gAd g (4, 0, 0))), (1, .ref (g.2.2.2.1 t1))] (by decide) (Nat.le_of_ble_eq_true rfl) rfl ?_
  intro x hc
  have hc : Zc x g c_Tape_passesWord R_Tape 2 (some .boolean) 6 := hc
  obtain ⟨ρ, hρ⟩ : ∃ ρ : Option Value × Sg, ρ = (some (.int r.1), r.2) := ⟨_, rfl⟩
  rw [← hρ]
  refine z_aload_n hc d_Tape_passesWord_0 0 rfl ?_
  refine z_aload_n hc d_Tape_passesWord_1 1 rfl ?_
  obtain ⟨v1, σ2, h3, hf⟩ := bd2 hf
  refine cz_Tape_53 hc d_Tape_passesWord_2 (by decide) ht1 h3 (Nat.le_of_ble_eq_true rfl) ?_
  refine z_if_ne (tgt := 10) hc d_Tape_passesWord_5 (by decide) (fun hq => ?_) (fun hq => ?_)
  · have hf := ifn hq hf
    refine z_aload_n hc d_Tape_passesWord_10 0 rfl ?_
    obtain ⟨v4, σ5, h6, hf⟩ := bd2 hf
    refine cz_Tape_22 hc d_Tape_passesWord_11 (by decide)  h6 (Nat.le_of_ble_eq_true rfl) ?_
    refine z_iconst (v := (iI 1)) hc d_Tape_passesWord_14 (by decide) ?_
    exact z_zret hc d_Tape_passesWord_15 (by decide) (rI hf hρ)
  · have hf := ifp hq hf
    refine z_iconst (v := (iI 0)) hc d_Tape_passesWord_8 (by decide) ?_
    exact z_zret hc d_Tape_passesWord_9 (by decide) (rI hf hρ)
def f_Tape_numberHere (x1 : Int32) (x2 : Int32) (σ : Sg) : Option (Int32 × Sg) :=
  (if (σ.1 4 0 0 1) = (iI 2) then (if (σ.1 4 0 0 4) < x1 then some ((iI (-2)), σ) else (if x2 < (σ.1 4 0 0 4) then some ((iI (-2)), σ) else some (σ.1 4 0 0 4, σ))) else some ((iI (-2)), σ))
theorem ok_Tape_numberHere (g : Gv) (x1 : Int32) (x2 : Int32) (σ : Sg) (r : Int32 × Sg) (hf : f_Tape_numberHere x1 x2 σ = some r) : Ok g y_Tape_numberHere c_Tape_numberHere 3 (some .int) 0 [.ref (gAd g (4, 0, 0)), .int x1, .int x2] σ (some (.int r.1), r.2) := by
  unfold f_Tape_numberHere at hf
  refine Ok.of [(0, .ref (gAd g (4, 0, 0))), (1, .int x1), (2, .int x2)] (by decide) (Nat.le_of_ble_eq_true rfl) rfl ?_
  intro x hc
  have hc : Zc x g c_Tape_numberHere R_Tape 3 (some .int) 0 := hc
  obtain ⟨ρ, hρ⟩ : ∃ ρ : Option Value × Sg, ρ = (some (.int r.1), r.2) := ⟨_, rfl⟩
  rw [← hρ]
  refine z_aload_n hc d_Tape_numberHere_0 0 rfl ?_
  refine gf_Tape_32 hc d_Tape_numberHere_1  ?_
  refine z_iconst (v := (iI 2)) hc d_Tape_numberHere_4 (by decide) ?_
  refine z_icmp_ne (tgt := 31) hc d_Tape_numberHere_5 (by decide) (fun hq => ?_) (fun hq => ?_)
  · have hf := ifn hq hf
    refine z_bipush (v := (iI (-2))) hc d_Tape_numberHere_31 (by decide) ?_
    exact z_iret hc d_Tape_numberHere_33 (rI hf hρ)
  · have hf := ifp hq hf
    refine z_aload_n hc d_Tape_numberHere_8 0 rfl ?_
    refine gf_Tape_41 hc d_Tape_numberHere_9  ?_
    refine z_iload_n hc d_Tape_numberHere_12 1 rfl ?_
    refine z_icmp_lt (tgt := 31) hc d_Tape_numberHere_13 (by decide) (fun hq => ?_) (fun hq => ?_)
    · have hf := ifp hq hf
      refine z_bipush (v := (iI (-2))) hc d_Tape_numberHere_31 (by decide) ?_
      exact z_iret hc d_Tape_numberHere_33 (rI hf hρ)
    · have hf := ifn hq hf
      refine z_aload_n hc d_Tape_numberHere_16 0 rfl ?_
      refine gf_Tape_41 hc d_Tape_numberHere_17  ?_
      refine z_iload_n hc d_Tape_numberHere_20 2 rfl ?_
      refine z_icmp_gt (tgt := 31) hc d_Tape_numberHere_21 (by decide) (fun hq => ?_) (fun hq => ?_)
      · have hf := ifp hq hf
        refine z_bipush (v := (iI (-2))) hc d_Tape_numberHere_31 (by decide) ?_
        exact z_iret hc d_Tape_numberHere_33 (rI hf hρ)
      · have hf := ifn hq hf
        refine z_aload_n hc d_Tape_numberHere_24 0 rfl ?_
        refine gf_Tape_41 hc d_Tape_numberHere_25  ?_
        refine z_goto (tgt := 33) hc d_Tape_numberHere_28 (by decide) ?_
        exact z_iret hc d_Tape_numberHere_33 (rI hf hρ)
def f_Rug_isOut (w0 : Nat) (c0 : Nat) (σ : Sg) : Option (Int32 × Sg) :=
  (if (σ.1 2 w0 c0 5) < (iI 0) then some ((iI 0), σ) else some ((iI 1), σ))
theorem ok_Rug_isOut (g : Gv) (w0 : Nat) (c0 : Nat) (hv0 : okR w0 c0) (σ : Sg) (r : Int32 × Sg) (hf : f_Rug_isOut w0 c0 σ = some r) : Ok g y_Rug_isOut c_Rug_isOut 1 (some .boolean) 0 [.ref (gAd g (2, w0, c0))] σ (some (.int r.1), r.2) := by
  unfold f_Rug_isOut at hf
  refine Ok.of [(0, .ref (gAd g (2, w0, c0)))] (by decide) (Nat.le_of_ble_eq_true rfl) rfl ?_
  intro x hc
  have hc : Zc x g c_Rug_isOut R_Rug 1 (some .boolean) 0 := hc
  obtain ⟨ρ, hρ⟩ : ∃ ρ : Option Value × Sg, ρ = (some (.int r.1), r.2) := ⟨_, rfl⟩
  rw [← hρ]
  refine z_aload_n hc d_Rug_isOut_0 0 rfl ?_
  refine gf_Rug_15 hc d_Rug_isOut_1 hv0 ?_
  refine z_if_lt (tgt := 11) hc d_Rug_isOut_4 (by decide) (fun hq => ?_) (fun hq => ?_)
  · have hf := ifp hq hf
    refine z_iconst (v := (iI 0)) hc d_Rug_isOut_11 (by decide) ?_
    exact z_zret hc d_Rug_isOut_12 (by decide) (rI hf hρ)
  · have hf := ifn hq hf
    refine z_iconst (v := (iI 1)) hc d_Rug_isOut_7 (by decide) ?_
    refine z_goto (tgt := 12) hc d_Rug_isOut_8 (by decide) ?_
    exact z_zret hc d_Rug_isOut_12 (by decide) (rI hf hρ)
def f_Rug_putAway (w0 : Nat) (c0 : Nat) (σ : Sg) : Option (Unit × Sg) :=
  some ((), upI (upI σ 2 w0 c0 5 (iI (-1))) 2 w0 c0 6 (iI 0))
theorem ok_Rug_putAway (g : Gv) (w0 : Nat) (c0 : Nat) (hv0 : okR w0 c0) (σ : Sg) (r : Unit × Sg) (hf : f_Rug_putAway w0 c0 σ = some r) : Ok g y_Rug_putAway c_Rug_putAway 1 none 0 [.ref (gAd g (2, w0, c0))] σ (none, r.2) := by
  unfold f_Rug_putAway at hf
  refine Ok.of [(0, .ref (gAd g (2, w0, c0)))] (by decide) (Nat.le_of_ble_eq_true rfl) rfl ?_
  intro x hc
  have hc : Zc x g c_Rug_putAway R_Rug 1 none 0 := hc
  obtain ⟨ρ, hρ⟩ : ∃ ρ : Option Value × Sg, ρ = (none, r.2) := ⟨_, rfl⟩
  rw [← hρ]
  refine z_aload_n hc d_Rug_putAway_0 0 rfl ?_
  refine z_iconst (v := (iI (-1))) hc d_Rug_putAway_1 (by decide) ?_
  refine pf_Rug_15 hc d_Rug_putAway_2 hv0 ?_
  refine z_aload_n hc d_Rug_putAway_5 0 rfl ?_
  refine z_iconst (v := (iI 0)) hc d_Rug_putAway_6 (by decide) ?_
  refine pf_Rug_34 hc d_Rug_putAway_7 hv0 ?_
  exact z_vret hc d_Rug_putAway_10 (rV hf hρ)
theorem vl_PalaceReader_66 : VL R_PalaceReader 66 y_Tape_numberHere c_Tape_numberHere 3 (some .int) 2 := ⟨tb4 16 (by decide +kernel) (by decide +kernel), tb4 17 (by decide +kernel) (by decide +kernel), tb4 18 (by decide +kernel) (by decide +kernel), tb1 10 (by decide +kernel) (by decide +kernel), k_Tape_numberHere, by decide, by decide, by decide +kernel, by decide⟩
theorem cz_PalaceReader_66 {x : Cx} {g : Gv} {cc : ByteArray} {nL d pc : Nat} {ret : Option FieldType} {ρ : Option Value × Sg} {L : List (Nat × Value)} {st : List Value} {σ : Sg} (hc : Zc x g cc R_PalaceReader nL ret d) (hd : decode cc pc = .ok (.invokevirtual 66, 3)) (hdd : 1 ≤ d) {x1 : Int32} {x2 : Int32} {v : Int32} {σ1 : Sg} (hf : f_Tape_numberHere x1 x2 σ = some (v, σ1)) (hst : (st.map (fun v => v.category)).sum ≤ 8) (k : Z x g nL ρ (pc + 3) L (.int v :: st) σ1) : Z x g nL ρ pc L (.int x2 :: .int x1 :: .ref (gAd g (4, 0, 0)) :: st) σ := z_callV (ci := 7) (As := [.int x1, .int x2]) hc hd vl_PalaceReader_66 hdd (4, 0, 0) (dm_Tape) rfl rfl (ok_Tape_numberHere g x1 x2 σ (v, σ1) hf) rfl rfl hst rfl k
theorem vl_PalaceReader_74 : VL R_PalaceReader 74 y_Rug_isOut c_Rug_isOut 1 (some .boolean) 0 := ⟨tb4 20 (by decide +kernel) (by decide +kernel), tb2 61 (by decide +kernel) (by decide +kernel), tb2 62 (by decide +kernel) (by decide +kernel), tb1 9 (by decide +kernel) (by decide +kernel), k_Rug_isOut, by decide, by decide, by decide +kernel, by decide⟩
theorem cz_PalaceReader_74 {x : Cx} {g : Gv} {cc : ByteArray} {nL d pc : Nat} {ret : Option FieldType} {ρ : Option Value × Sg} {L : List (Nat × Value)} {st : List Value} {σ : Sg} (hc : Zc x g cc R_PalaceReader nL ret d) (hd : decode cc pc = .ok (.invokevirtual 74, 3)) (hdd : 1 ≤ d) {w0 : Nat} {c0 : Nat} (hv0 : okR w0 c0) {v : Int32} {σ1 : Sg} (hf : f_Rug_isOut w0 c0 σ = some (v, σ1)) (hst : (st.map (fun v => v.category)).sum ≤ 8) (k : Z x g nL ρ (pc + 3) L (.int v :: st) σ1) : Z x g nL ρ pc L (.ref (gAd g (2, w0, c0)) :: st) σ := z_callV (ci := 2) (As := []) hc hd vl_PalaceReader_74 hdd (2, w0, c0) (dm_Rug hv0) rfl rfl (ok_Rug_isOut g w0 c0 hv0 σ (v, σ1) hf) rfl rfl hst rfl k
theorem vl_PalaceReader_80 : VL R_PalaceReader 80 y_Rug_putAway c_Rug_putAway 1 none 0 := ⟨tb4 21 (by decide +kernel) (by decide +kernel), tb2 174 (by decide +kernel) (by decide +kernel), tb2 175 (by decide +kernel) (by decide +kernel), tb1 9 (by decide +kernel) (by decide +kernel), k_Rug_putAway, by decide, by decide, by decide +kernel, by decide⟩
theorem cz_PalaceReader_80 {x : Cx} {g : Gv} {cc : ByteArray} {nL d pc : Nat} {ret : Option FieldType} {ρ : Option Value × Sg} {L : List (Nat × Value)} {st : List Value} {σ : Sg} (hc : Zc x g cc R_PalaceReader nL ret d) (hd : decode cc pc = .ok (.invokevirtual 80, 3)) (hdd : 1 ≤ d) {w0 : Nat} {c0 : Nat} (hv0 : okR w0 c0) {v : Unit} {σ1 : Sg} (hf : f_Rug_putAway w0 c0 σ = some (v, σ1)) (hst : (st.map (fun v => v.category)).sum ≤ 8) (k : Z x g nL ρ (pc + 3) L (st) σ1) : Z x g nL ρ pc L (.ref (gAd g (2, w0, c0)) :: st) σ := z_callV (ci := 2) (As := []) hc hd vl_PalaceReader_80 hdd (2, w0, c0) (dm_Rug hv0) rfl rfl (ok_Rug_putAway g w0 c0 hv0 σ (v, σ1) hf) rfl rfl hst rfl k
theorem vl_PalaceReader_24 : VL R_PalaceReader 24 y_Tape_toNextToken c_Tape_toNextToken 2 none 0 := ⟨tb4 22 (by decide +kernel) (by decide +kernel), tb3 186 (by decide +kernel) (by decide +kernel), tb3 187 (by decide +kernel) (by decide +kernel), tb1 10 (by decide +kernel) (by decide +kernel), k_Tape_toNextToken, by decide, by decide, by decide +kernel, by decide⟩
theorem cz_PalaceReader_24 {x : Cx} {g : Gv} {cc : ByteArray} {nL d pc : Nat} {ret : Option FieldType} {ρ : Option Value × Sg} {L : List (Nat × Value)} {st : List Value} {σ : Sg} (hc : Zc x g cc R_PalaceReader nL ret d) (hd : decode cc pc = .ok (.invokevirtual 24, 3)) (hdd : 2 ≤ d) {v : Unit} {σ1 : Sg} (hf : f_Tape_toNextToken σ = some (v, σ1)) (hst : (st.map (fun v => v.category)).sum ≤ 8) (k : Z x g nL ρ (pc + 3) L (st) σ1) : Z x g nL ρ pc L (.ref (gAd g (4, 0, 0)) :: st) σ := z_callV (ci := 7) (As := []) hc hd vl_PalaceReader_24 hdd (4, 0, 0) (dm_Tape) rfl rfl (ok_Tape_toNextToken g σ (v, σ1) hf) rfl rfl hst rfl k
def f_PalaceReader_readUp (w1 : Nat) (σ : Sg) : Option (Int32 × Sg) :=
  b2 (f_Tape_numberHere (iI 0) ((σ.1 1 w1 0 0) - (iI 1)) σ) (fun v1 σ2 => (if v1 < (iI 0) then some ((iI 0), σ2) else Option.bind (rd v1 8) (fun j4 => b2 (f_Rug_isOut w1 j4 σ2) (fun v6 σ7 => (if v6 = (iI 0) then some ((iI 0), σ7) else Option.bind (rd v1 8) (fun j9 => b2 (f_Rug_putAway w1 j9 σ7) (fun v11 σ12 => b2 (f_Tape_toNextToken  σ12) (fun v14 σ15 => some ((iI 1), σ15)))))))))
theorem ok_PalaceReader_readUp (g : Gv) (w1 : Nat) (hv1 : w1 < 3) (σ : Sg) (r : Int32 × Sg) (hf : f_PalaceReader_readUp w1 σ = some r) : Ok g y_PalaceReader_readUp c_PalaceReader_readUp 3 (some .boolean) 2 [.ref (gAd g (4, 0, 0)), .ref (gAd g (1, w1, 0))] σ (some (.int r.1), r.2) := by
  unfold f_PalaceReader_readUp at hf
  refine Ok.of [(0, .ref (gAd g (4, 0, 0))), (1, .ref (gAd g (1, w1, 0)))] (by decide) (Nat.le_of_ble_eq_true rfl) rfl ?_
  intro x hc
  have hc : Zc x g c_PalaceReader_readUp R_PalaceReader 3 (some .boolean) 2 := hc
  obtain ⟨ρ, hρ⟩ : ∃ ρ : Option Value × Sg, ρ = (some (.int r.1), r.2) := ⟨_, rfl⟩
  rw [← hρ]
  refine z_aload_n hc d_PalaceReader_readUp_0 0 rfl ?_
  refine z_iconst (v := (iI 0)) hc d_PalaceReader_readUp_1 (by decide) ?_
  refine z_aload_n hc d_PalaceReader_readUp_2 1 rfl ?_
  refine gf_PalaceReader_61 hc d_PalaceReader_readUp_3 hv1 ?_
  refine z_iconst (v := (iI 1)) hc d_PalaceReader_readUp_6 (by decide) ?_
  refine z_isub hc d_PalaceReader_readUp_7 ?_
  obtain ⟨v1, σ2, h3, hf⟩ := bd2 hf
  refine cz_PalaceReader_66 hc d_PalaceReader_readUp_8 (by decide)  h3 (Nat.le_of_ble_eq_true rfl) ?_
  refine z_istore_n (L' := [(2, .int v1), (0, .ref (gAd g (4, 0, 0))), (1, .ref (gAd g (1, w1, 0)))]) hc d_PalaceReader_readUp_11 (by decide) rfl ?_
  refine z_iload_n hc d_PalaceReader_readUp_12 0 rfl ?_
  refine z_if_lt (tgt := 28) hc d_PalaceReader_readUp_13 (by decide) (fun hq => ?_) (fun hq => ?_)
  · have hf := ifp hq hf
    refine z_iconst (v := (iI 0)) hc d_PalaceReader_readUp_28 (by decide) ?_
    exact z_zret hc d_PalaceReader_readUp_29 (by decide) (rI hf hρ)
  · have hf := ifn hq hf
    refine z_aload_n hc d_PalaceReader_readUp_16 2 rfl ?_
    refine gf_PalaceReader_70 hc d_PalaceReader_readUp_17 hv1 ?_
    refine z_iload_n hc d_PalaceReader_readUp_20 0 rfl ?_
    obtain ⟨j4, hj5, hf⟩ := bd hf
    refine ald_rugs hc d_PalaceReader_readUp_21 hv1 hj5 ?_
    obtain ⟨v6, σ7, h8, hf⟩ := bd2 hf
    refine cz_PalaceReader_74 hc d_PalaceReader_readUp_22 (by decide) (okR_of hv1 (rd_lt hj5)) h8 (Nat.le_of_ble_eq_true rfl) ?_
    refine z_if_ne (tgt := 30) hc d_PalaceReader_readUp_25 (by decide) (fun hq => ?_) (fun hq => ?_)
    · have hf := ifn hq hf
      refine z_aload_n hc d_PalaceReader_readUp_30 2 rfl ?_
      refine gf_PalaceReader_70 hc d_PalaceReader_readUp_31 hv1 ?_
      refine z_iload_n hc d_PalaceReader_readUp_34 0 rfl ?_
      obtain ⟨j9, hj10, hf⟩ := bd hf
      refine ald_rugs hc d_PalaceReader_readUp_35 hv1 hj10 ?_
      obtain ⟨v11, σ12, h13, hf⟩ := bd2 hf
      refine cz_PalaceReader_80 hc d_PalaceReader_readUp_36 (by decide) (okR_of hv1 (rd_lt hj10)) h13 (Nat.le_of_ble_eq_true rfl) ?_
      refine z_aload_n hc d_PalaceReader_readUp_39 1 rfl ?_
      obtain ⟨v14, σ15, h16, hf⟩ := bd2 hf
      refine cz_PalaceReader_24 hc d_PalaceReader_readUp_40 (by decide)  h16 (Nat.le_of_ble_eq_true rfl) ?_
      refine z_iconst (v := (iI 1)) hc d_PalaceReader_readUp_43 (by decide) ?_
      exact z_zret hc d_PalaceReader_readUp_44 (by decide) (rI hf hρ)
    · have hf := ifp hq hf
      refine z_iconst (v := (iI 0)) hc d_PalaceReader_readUp_28 (by decide) ?_
      exact z_zret hc d_PalaceReader_readUp_29 (by decide) (rI hf hρ)
theorem vl_Tape_57 : VL R_Tape 57 y_Tape_numberHere c_Tape_numberHere 3 (some .int) 2 := ⟨tb4 31 (by decide +kernel) (by decide +kernel), tb4 17 (by decide +kernel) (by decide +kernel), tb4 18 (by decide +kernel) (by decide +kernel), tb1 10 (by decide +kernel) (by decide +kernel), k_Tape_numberHere, by decide, by decide, by decide +kernel, by decide⟩
theorem cz_Tape_57 {x : Cx} {g : Gv} {cc : ByteArray} {nL d pc : Nat} {ret : Option FieldType} {ρ : Option Value × Sg} {L : List (Nat × Value)} {st : List Value} {σ : Sg} (hc : Zc x g cc R_Tape nL ret d) (hd : decode cc pc = .ok (.invokevirtual 57, 3)) (hdd : 1 ≤ d) {x1 : Int32} {x2 : Int32} {v : Int32} {σ1 : Sg} (hf : f_Tape_numberHere x1 x2 σ = some (v, σ1)) (hst : (st.map (fun v => v.category)).sum ≤ 8) (k : Z x g nL ρ (pc + 3) L (.int v :: st) σ1) : Z x g nL ρ pc L (.int x2 :: .int x1 :: .ref (gAd g (4, 0, 0)) :: st) σ := z_callV (ci := 7) (As := [.int x1, .int x2]) hc hd vl_Tape_57 hdd (4, 0, 0) (dm_Tape) rfl rfl (ok_Tape_numberHere g x1 x2 σ (v, σ1) hf) rfl rfl hst rfl k
def f_Tape_passNumber (x1 : Int32) (x2 : Int32) (σ : Sg) : Option (Int32 × Sg) :=
  b2 (f_Tape_numberHere x1 x2 σ) (fun v1 σ2 => (if v1 = (iI (-2)) then some (v1, σ2) else b2 (f_Tape_toNextToken  σ2) (fun v4 σ5 => some (v1, σ5))))
theorem ok_Tape_passNumber (g : Gv) (x1 : Int32) (x2 : Int32) (σ : Sg) (r : Int32 × Sg) (hf : f_Tape_passNumber x1 x2 σ = some r) : Ok g y_Tape_passNumber c_Tape_passNumber 4 (some .int) 2 [.ref (gAd g (4, 0, 0)), .int x1, .int x2] σ (some (.int r.1), r.2) := by
  unfold f_Tape_passNumber at hf
  refine Ok.of [(0, .ref (gAd g (4, 0, 0))), (1, .int x1), (2, .int x2)] (by decide) (Nat.le_of_ble_eq_true rfl) rfl ?_
  intro x hc
  have hc : Zc x g c_Tape_passNumber R_Tape 4 (some .int) 2 := hc
  obtain ⟨ρ, hρ⟩ : ∃ ρ : Option Value × Sg, ρ = (some (.int r.1), r.2) := ⟨_, rfl⟩
  rw [← hρ]
  refine z_aload_n hc d_Tape_passNumber_0 0 rfl ?_
  refine z_iload_n hc d_Tape_passNumber_1 1 rfl ?_
  refine z_iload_n hc d_Tape_passNumber_2 2 rfl ?_
  obtain ⟨v1, σ2, h3, hf⟩ := bd2 hf
  refine cz_Tape_57 hc d_Tape_passNumber_3 (by decide)  h3 (Nat.le_of_ble_eq_true rfl) ?_
  refine z_istore_n (L' := [(3, .int v1), (0, .ref (gAd g (4, 0, 0))), (1, .int x1), (2, .int x2)]) hc d_Tape_passNumber_6 (by decide) rfl ?_
  refine z_iload_n hc d_Tape_passNumber_7 0 rfl ?_
  refine z_bipush (v := (iI (-2))) hc d_Tape_passNumber_8 (by decide) ?_
  refine z_icmp_eq (tgt := 17) hc d_Tape_passNumber_10 (by decide) (fun hq => ?_) (fun hq => ?_)
  · have hf := ifp hq hf
    refine z_iload_n hc d_Tape_passNumber_17 0 rfl ?_
    exact z_iret hc d_Tape_passNumber_18 (rI hf hρ)
  · have hf := ifn hq hf
    refine z_aload_n hc d_Tape_passNumber_13 1 rfl ?_
    obtain ⟨v4, σ5, h6, hf⟩ := bd2 hf
    refine cz_Tape_22 hc d_Tape_passNumber_14 (by decide)  h6 (Nat.le_of_ble_eq_true rfl) ?_
    refine z_iload_n hc d_Tape_passNumber_17 0 rfl ?_
    exact z_iret hc d_Tape_passNumber_18 (rI hf hρ)
theorem vl_PalaceReader_83 : VL R_PalaceReader 83 y_Tape_passNumber c_Tape_passNumber 4 (some .int) 2 := ⟨tb4 27 (by decide +kernel) (by decide +kernel), tb4 28 (by decide +kernel) (by decide +kernel), tb4 29 (by decide +kernel) (by decide +kernel), tb1 10 (by decide +kernel) (by decide +kernel), k_Tape_passNumber, by decide, by decide, by decide +kernel, by decide⟩
theorem cz_PalaceReader_83 {x : Cx} {g : Gv} {cc : ByteArray} {nL d pc : Nat} {ret : Option FieldType} {ρ : Option Value × Sg} {L : List (Nat × Value)} {st : List Value} {σ : Sg} (hc : Zc x g cc R_PalaceReader nL ret d) (hd : decode cc pc = .ok (.invokevirtual 83, 3)) (hdd : 3 ≤ d) {x1 : Int32} {x2 : Int32} {v : Int32} {σ1 : Sg} (hf : f_Tape_passNumber x1 x2 σ = some (v, σ1)) (hst : (st.map (fun v => v.category)).sum ≤ 8) (k : Z x g nL ρ (pc + 3) L (.int v :: st) σ1) : Z x g nL ρ pc L (.int x2 :: .int x1 :: .ref (gAd g (4, 0, 0)) :: st) σ := z_callV (ci := 7) (As := [.int x1, .int x2]) hc hd vl_PalaceReader_83 hdd (4, 0, 0) (dm_Tape) rfl rfl (ok_Tape_passNumber g x1 x2 σ (v, σ1) hf) rfl rfl hst rfl k
def f_PalaceReader_readPlace (w1 : Nat) (x2 : Int32) (σ : Sg) : Option (Int32 × Sg) :=
  b2 (f_Tape_passNumber (iI 0) (iI 6) σ) (fun v1 σ2 => (if (iI 0) ≤ v1 then Option.bind (rd v1 7) (fun j4 => some ((iI 1), upI σ2 12 w1 0 j4 x2)) else some ((iI 0), σ2)))
theorem ok_PalaceReader_readPlace (g : Gv) (w1 : Nat) (x2 : Int32) (hv1 : w1 < 3) (σ : Sg) (r : Int32 × Sg) (hf : f_PalaceReader_readPlace w1 x2 σ = some r) : Ok g y_PalaceReader_readPlace c_PalaceReader_readPlace 4 (some .boolean) 3 [.ref (gAd g (4, 0, 0)), .ref (gAd g (1, w1, 0)), .int x2] σ (some (.int r.1), r.2) := by
  unfold f_PalaceReader_readPlace at hf
  refine Ok.of [(0, .ref (gAd g (4, 0, 0))), (1, .ref (gAd g (1, w1, 0))), (2, .int x2)] (by decide) (Nat.le_of_ble_eq_true rfl) rfl ?_
  intro x hc
  have hc : Zc x g c_PalaceReader_readPlace R_PalaceReader 4 (some .boolean) 3 := hc
  obtain ⟨ρ, hρ⟩ : ∃ ρ : Option Value × Sg, ρ = (some (.int r.1), r.2) := ⟨_, rfl⟩
  rw [← hρ]
  refine z_aload_n hc d_PalaceReader_readPlace_0 0 rfl ?_
  refine z_iconst (v := (iI 0)) hc d_PalaceReader_readPlace_1 (by decide) ?_
  refine z_bipush (v := (iI 6)) hc d_PalaceReader_readPlace_2 (by decide) ?_
  obtain ⟨v1, σ2, h3, hf⟩ := bd2 hf
  refine cz_PalaceReader_83 hc d_PalaceReader_readPlace_4 (by decide)  h3 (Nat.le_of_ble_eq_true rfl) ?_
  refine z_istore_n (L' := [(3, .int v1), (0, .ref (gAd g (4, 0, 0))), (1, .ref (gAd g (1, w1, 0))), (2, .int x2)]) hc d_PalaceReader_readPlace_7 (by decide) rfl ?_
  refine z_iload_n hc d_PalaceReader_readPlace_8 0 rfl ?_
  refine z_if_ge (tgt := 14) hc d_PalaceReader_readPlace_9 (by decide) (fun hq => ?_) (fun hq => ?_)
  · have hf := ifp hq hf
    refine z_aload_n hc d_PalaceReader_readPlace_14 2 rfl ?_
    refine gf_PalaceReader_86 hc d_PalaceReader_readPlace_15 hv1 ?_
    refine z_iload_n hc d_PalaceReader_readPlace_18 0 rfl ?_
    refine z_iload_n hc d_PalaceReader_readPlace_19 3 rfl ?_
    obtain ⟨j4, hj5, hf⟩ := bd hf
    refine ast_rain hc d_PalaceReader_readPlace_20 hv1 hj5 ?_
    refine z_iconst (v := (iI 1)) hc d_PalaceReader_readPlace_21 (by decide) ?_
    exact z_zret hc d_PalaceReader_readPlace_22 (by decide) (rI hf hρ)
  · have hf := ifn hq hf
    refine z_iconst (v := (iI 0)) hc d_PalaceReader_readPlace_12 (by decide) ?_
    exact z_zret hc d_PalaceReader_readPlace_13 (by decide) (rI hf hρ)
theorem vl_Rug_31 : VL R_Rug 31 y_Rug_putAway c_Rug_putAway 1 none 0 := ⟨tb2 173 (by decide +kernel) (by decide +kernel), tb2 174 (by decide +kernel) (by decide +kernel), tb2 175 (by decide +kernel) (by decide +kernel), tb1 9 (by decide +kernel) (by decide +kernel), k_Rug_putAway, by decide, by decide, by decide +kernel, by decide⟩
theorem cz_Rug_31 {x : Cx} {g : Gv} {cc : ByteArray} {nL d pc : Nat} {ret : Option FieldType} {ρ : Option Value × Sg} {L : List (Nat × Value)} {st : List Value} {σ : Sg} (hc : Zc x g cc R_Rug nL ret d) (hd : decode cc pc = .ok (.invokevirtual 31, 3)) (hdd : 1 ≤ d) {w0 : Nat} {c0 : Nat} (hv0 : okR w0 c0) {v : Unit} {σ1 : Sg} (hf : f_Rug_putAway w0 c0 σ = some (v, σ1)) (hst : (st.map (fun v => v.category)).sum ≤ 8) (k : Z x g nL ρ (pc + 3) L (st) σ1) : Z x g nL ρ pc L (.ref (gAd g (2, w0, c0)) :: st) σ := z_callV (ci := 2) (As := []) hc hd vl_Rug_31 hdd (2, w0, c0) (dm_Rug hv0) rfl rfl (ok_Rug_putAway g w0 c0 hv0 σ (v, σ1) hf) rfl rfl hst rfl k
def f_Rug_begin (w0 : Nat) (c0 : Nat) (w1 : Nat) (x2 : Int32) (σ : Sg) : Option (Unit × Sg) :=
  b2 (f_Rug_putAway w0 c0 (upI (upI (upI (upI (upK σ 2 w0 c0 w1) 2 w0 c0 1 x2) 2 w0 c0 2 (iI 8)) 2 w0 c0 3 (iI 50)) 2 w0 c0 4 (iI 0))) (fun v1 σ2 => some ((), σ2))
theorem ok_Rug_begin (g : Gv) (w0 : Nat) (c0 : Nat) (w1 : Nat) (x2 : Int32) (hv0 : okR w0 c0) (hv1 : w1 < 6) (σ : Sg) (r : Unit × Sg) (hf : f_Rug_begin w0 c0 w1 x2 σ = some r) : Ok g y_Rug_begin c_Rug_begin 3 none 1 [.ref (gAd g (2, w0, c0)), .ref (gAd g (5, w1, 0)), .int x2] σ (none, r.2) := by
  unfold f_Rug_begin at hf
  refine Ok.of [(0, .ref (gAd g (2, w0, c0))), (1, .ref (gAd g (5, w1, 0))), (2, .int x2)] (by decide) (Nat.le_of_ble_eq_true rfl) rfl ?_
  intro x hc
  have hc : Zc x g c_Rug_begin R_Rug 3 none 1 := hc
  obtain ⟨ρ, hρ⟩ : ∃ ρ : Option Value × Sg, ρ = (none, r.2) := ⟨_, rfl⟩
  rw [← hρ]
  refine z_aload_n hc d_Rug_begin_0 0 rfl ?_
  refine z_aload_n hc d_Rug_begin_1 1 rfl ?_
  refine pf_Rug_9 hc d_Rug_begin_2 hv0 ?_
  refine z_aload_n hc d_Rug_begin_5 0 rfl ?_
  refine z_iload_n hc d_Rug_begin_6 2 rfl ?_
  refine pf_Rug_19 hc d_Rug_begin_7 hv0 ?_
  refine z_aload_n hc d_Rug_begin_10 0 rfl ?_
  refine z_bipush (v := (iI 8)) hc d_Rug_begin_11 (by decide) ?_
  refine pf_Rug_22 hc d_Rug_begin_13 hv0 ?_
  refine z_aload_n hc d_Rug_begin_16 0 rfl ?_
  refine z_bipush (v := (iI 50)) hc d_Rug_begin_17 (by decide) ?_
  refine pf_Rug_25 hc d_Rug_begin_19 hv0 ?_
  refine z_aload_n hc d_Rug_begin_22 0 rfl ?_
  refine z_iconst (v := (iI 0)) hc d_Rug_begin_23 (by decide) ?_
  refine pf_Rug_28 hc d_Rug_begin_24 hv0 ?_
  refine z_aload_n hc d_Rug_begin_27 0 rfl ?_
  obtain ⟨v1, σ2, h3, hf⟩ := bd2 hf
  refine cz_Rug_31 hc d_Rug_begin_28 (by decide) hv0 h3 (Nat.le_of_ble_eq_true rfl) ?_
  exact z_vret hc d_Rug_begin_31 (rV hf hρ)
theorem vl_World_51 : VL R_World 51 y_Rug_begin c_Rug_begin 3 none 2 := ⟨tb2 169 (by decide +kernel) (by decide +kernel), tb2 170 (by decide +kernel) (by decide +kernel), tb2 171 (by decide +kernel) (by decide +kernel), tb1 9 (by decide +kernel) (by decide +kernel), k_Rug_begin, by decide, by decide, by decide +kernel, by decide⟩
theorem cz_World_51 {x : Cx} {g : Gv} {cc : ByteArray} {nL d pc : Nat} {ret : Option FieldType} {ρ : Option Value × Sg} {L : List (Nat × Value)} {st : List Value} {σ : Sg} (hc : Zc x g cc R_World nL ret d) (hd : decode cc pc = .ok (.invokevirtual 51, 3)) (hdd : 2 ≤ d) {w0 : Nat} {c0 : Nat} {w1 : Nat} {x2 : Int32} (hv0 : okR w0 c0) (hv1 : w1 < 6) {v : Unit} {σ1 : Sg} (hf : f_Rug_begin w0 c0 w1 x2 σ = some (v, σ1)) (hst : (st.map (fun v => v.category)).sum ≤ 8) (k : Z x g nL ρ (pc + 3) L (st) σ1) : Z x g nL ρ pc L (.int x2 :: .ref (gAd g (5, w1, 0)) :: .ref (gAd g (2, w0, c0)) :: st) σ := z_callV (ci := 2) (As := [.ref (gAd g (5, w1, 0)), .int x2]) hc hd vl_World_51 hdd (2, w0, c0) (dm_Rug hv0) rfl rfl (ok_Rug_begin g w0 c0 w1 x2 hv0 hv1 σ (v, σ1) hf) rfl rfl hst rfl k
def f_World_addRug (w0 : Nat) (w1 : Nat) (x2 : Int32) (σ : Sg) : Option (Int32 × Sg) :=
  (if (σ.1 1 w0 0 0) < (iI 8) then Option.bind (rd (σ.1 1 w0 0 0) 8) (fun j1 => b2 (f_Rug_begin w0 j1 w1 x2 σ) (fun v3 σ4 => some (((upI σ4 1 w0 0 0 ((σ4.1 1 w0 0 0) + (iI 1))).1 1 w0 0 0) - (iI 1), upI σ4 1 w0 0 0 ((σ4.1 1 w0 0 0) + (iI 1))))) else some ((iI (-1)), σ))
theorem ok_World_addRug (g : Gv) (w0 : Nat) (w1 : Nat) (x2 : Int32) (hv0 : w0 < 3) (hv1 : w1 < 6) (σ : Sg) (r : Int32 × Sg) (hf : f_World_addRug w0 w1 x2 σ = some r) : Ok g y_World_addRug c_World_addRug 3 (some .int) 2 [.ref (gAd g (1, w0, 0)), .ref (gAd g (5, w1, 0)), .int x2] σ (some (.int r.1), r.2) := by
  unfold f_World_addRug at hf
  refine Ok.of [(0, .ref (gAd g (1, w0, 0))), (1, .ref (gAd g (5, w1, 0))), (2, .int x2)] (by decide) (Nat.le_of_ble_eq_true rfl) rfl ?_
  intro x hc
  have hc : Zc x g c_World_addRug R_World 3 (some .int) 2 := hc
  obtain ⟨ρ, hρ⟩ : ∃ ρ : Option Value × Sg, ρ = (some (.int r.1), r.2) := ⟨_, rfl⟩
  rw [← hρ]
  refine z_aload_n hc d_World_addRug_0 0 rfl ?_
  refine gf_World_31 hc d_World_addRug_1 hv0 ?_
  refine z_bipush (v := (iI 8)) hc d_World_addRug_4 (by decide) ?_
  refine z_icmp_lt (tgt := 11) hc d_World_addRug_6 (by decide) (fun hq => ?_) (fun hq => ?_)
  · have hf := ifp hq hf
    refine z_aload_n hc d_World_addRug_11 0 rfl ?_
    refine gf_World_11 hc d_World_addRug_12 hv0 ?_
    refine z_aload_n hc d_World_addRug_15 0 rfl ?_
    refine gf_World_31 hc d_World_addRug_16 hv0 ?_
    obtain ⟨j1, hj2, hf⟩ := bd hf
    refine ald_rugs hc d_World_addRug_19 hv0 hj2 ?_
    refine z_aload_n hc d_World_addRug_20 1 rfl ?_
    refine z_iload_n hc d_World_addRug_21 2 rfl ?_
    obtain ⟨v3, σ4, h5, hf⟩ := bd2 hf
    refine cz_World_51 hc d_World_addRug_22 (by decide) (okR_of hv0 (rd_lt hj2)) hv1 h5 (Nat.le_of_ble_eq_true rfl) ?_
    refine z_aload_n hc d_World_addRug_25 0 rfl ?_
    refine z_dup hc d_World_addRug_26 rfl ?_
    refine gf_World_31 hc d_World_addRug_27 hv0 ?_
    refine z_iconst (v := (iI 1)) hc d_World_addRug_30 (by decide) ?_
    refine z_iadd hc d_World_addRug_31 ?_
    refine pf_World_31 hc d_World_addRug_32 hv0 ?_
    refine z_aload_n hc d_World_addRug_35 0 rfl ?_
    refine gf_World_31 hc d_World_addRug_36 hv0 ?_
    refine z_iconst (v := (iI 1)) hc d_World_addRug_39 (by decide) ?_
    refine z_isub hc d_World_addRug_40 ?_
    exact z_iret hc d_World_addRug_41 (rI hf hρ)
  · have hf := ifn hq hf
    refine z_iconst (v := (iI (-1))) hc d_World_addRug_9 (by decide) ?_
    exact z_iret hc d_World_addRug_10 (rI hf hρ)
def f_World_layOut (w0 : Nat) (w1 : Nat) (c1 : Nat) (x2 : Int32) (σ : Sg) : Option (Unit × Sg) :=
  some ((), upI (upI (upI σ 1 w0 0 2 (if ((σ.1 1 w0 0 2) + (iI 1)) < (iI 99999) then ((σ.1 1 w0 0 2) + (iI 1)) else (iI 99999))) 2 w1 c1 6 ((upI σ 1 w0 0 2 (if ((σ.1 1 w0 0 2) + (iI 1)) < (iI 99999) then ((σ.1 1 w0 0 2) + (iI 1)) else (iI 99999))).1 1 w0 0 2)) 2 w1 c1 5 x2)
theorem ok_World_layOut (g : Gv) (w0 : Nat) (w1 : Nat) (c1 : Nat) (x2 : Int32) (hv0 : w0 < 3) (hv1 : okR w1 c1) (σ : Sg) (r : Unit × Sg) (hf : f_World_layOut w0 w1 c1 x2 σ = some r) : Ok g y_World_layOut c_World_layOut 3 none 1 [.ref (gAd g (1, w0, 0)), .ref (gAd g (2, w1, c1)), .int x2] σ (none, r.2) := by
  unfold f_World_layOut at hf
  refine Ok.of [(0, .ref (gAd g (1, w0, 0))), (1, .ref (gAd g (2, w1, c1))), (2, .int x2)] (by decide) (Nat.le_of_ble_eq_true rfl) rfl ?_
  intro x hc
  have hc : Zc x g c_World_layOut R_World 3 none 1 := hc
  obtain ⟨ρ, hρ⟩ : ∃ ρ : Option Value × Sg, ρ = (none, r.2) := ⟨_, rfl⟩
  rw [← hρ]
  refine z_aload_n hc d_World_layOut_0 0 rfl ?_
  refine z_ldc (v := (iI 99999)) hc co_World_55 d_World_layOut_1 ?_
  refine z_aload_n hc d_World_layOut_3 0 rfl ?_
  refine gf_World_48 hc d_World_layOut_4 hv0 ?_
  refine z_iconst (v := (iI 1)) hc d_World_layOut_7 (by decide) ?_
  refine z_iadd hc d_World_layOut_8 ?_
  refine z_min hc d_World_layOut_9 ml_World_56 (by decide) (Nat.le_of_ble_eq_true rfl) ?_
  refine pf_World_48 hc d_World_layOut_12 hv0 ?_
  refine z_aload_n hc d_World_layOut_15 1 rfl ?_
  refine z_aload_n hc d_World_layOut_16 0 rfl ?_
  refine gf_World_48 hc d_World_layOut_17 hv0 ?_
  refine pf_World_62 hc d_World_layOut_20 hv1 ?_
  refine z_aload_n hc d_World_layOut_23 1 rfl ?_
  refine z_iload_n hc d_World_layOut_24 2 rfl ?_
  refine pf_World_65 hc d_World_layOut_25 hv1 ?_
  exact z_vret hc d_World_layOut_28 (rV hf hρ)
theorem vl_PalaceReader_89 : VL R_PalaceReader 89 y_World_addRug c_World_addRug 3 (some .int) 2 := ⟨tb4 37 (by decide +kernel) (by decide +kernel), tb2 166 (by decide +kernel) (by decide +kernel), tb2 167 (by decide +kernel) (by decide +kernel), tb1 8 (by decide +kernel) (by decide +kernel), k_World_addRug, by decide, by decide, by decide +kernel, by decide⟩
theorem cz_PalaceReader_89 {x : Cx} {g : Gv} {cc : ByteArray} {nL d pc : Nat} {ret : Option FieldType} {ρ : Option Value × Sg} {L : List (Nat × Value)} {st : List Value} {σ : Sg} (hc : Zc x g cc R_PalaceReader nL ret d) (hd : decode cc pc = .ok (.invokevirtual 89, 3)) (hdd : 3 ≤ d) {w0 : Nat} {w1 : Nat} {x2 : Int32} (hv0 : w0 < 3) (hv1 : w1 < 6) {v : Int32} {σ1 : Sg} (hf : f_World_addRug w0 w1 x2 σ = some (v, σ1)) (hst : (st.map (fun v => v.category)).sum ≤ 8) (k : Z x g nL ρ (pc + 3) L (.int v :: st) σ1) : Z x g nL ρ pc L (.int x2 :: .ref (gAd g (5, w1, 0)) :: .ref (gAd g (1, w0, 0)) :: st) σ := z_callV (ci := 9) (As := [.ref (gAd g (5, w1, 0)), .int x2]) hc hd vl_PalaceReader_89 hdd (1, w0, 0) (dm_World hv0) rfl rfl (ok_World_addRug g w0 w1 x2 hv0 hv1 σ (v, σ1) hf) rfl rfl hst rfl k
theorem vl_PalaceReader_32 : VL R_PalaceReader 32 y_Tape_passesWord c_Tape_passesWord 2 (some .boolean) 1 := ⟨tb3 197 (by decide +kernel) (by decide +kernel), tb3 198 (by decide +kernel) (by decide +kernel), tb3 199 (by decide +kernel) (by decide +kernel), tb1 10 (by decide +kernel) (by decide +kernel), k_Tape_passesWord, by decide, by decide, by decide +kernel, by decide⟩
theorem cz_PalaceReader_32 {x : Cx} {g : Gv} {cc : ByteArray} {nL d pc : Nat} {ret : Option FieldType} {ρ : Option Value × Sg} {L : List (Nat × Value)} {st : List Value} {σ : Sg} (hc : Zc x g cc R_PalaceReader nL ret d) (hd : decode cc pc = .ok (.invokevirtual 32, 3)) (hdd : 7 ≤ d) {t1 : Nat} (ht1 : t1 < 12) {v : Int32} {σ1 : Sg} (hf : f_Tape_passesWord t1 σ = some (v, σ1)) (hst : (st.map (fun v => v.category)).sum ≤ 8) (k : Z x g nL ρ (pc + 3) L (.int v :: st) σ1) : Z x g nL ρ pc L (.ref (g.2.2.2.1 t1) :: .ref (gAd g (4, 0, 0)) :: st) σ := z_callV (ci := 7) (As := [.ref (g.2.2.2.1 t1)]) hc hd vl_PalaceReader_32 hdd (4, 0, 0) (dm_Tape) rfl rfl (ok_Tape_passesWord g t1 ht1 σ (v, σ1) hf) rfl rfl hst rfl k
theorem vl_PalaceReader_107 : VL R_PalaceReader 107 y_World_layOut c_World_layOut 3 none 2 := ⟨tb4 41 (by decide +kernel) (by decide +kernel), tb3 50 (by decide +kernel) (by decide +kernel), tb3 51 (by decide +kernel) (by decide +kernel), tb1 8 (by decide +kernel) (by decide +kernel), k_World_layOut, by decide, by decide, by decide +kernel, by decide⟩
theorem cz_PalaceReader_107 {x : Cx} {g : Gv} {cc : ByteArray} {nL d pc : Nat} {ret : Option FieldType} {ρ : Option Value × Sg} {L : List (Nat × Value)} {st : List Value} {σ : Sg} (hc : Zc x g cc R_PalaceReader nL ret d) (hd : decode cc pc = .ok (.invokevirtual 107, 3)) (hdd : 2 ≤ d) {w0 : Nat} {w1 : Nat} {c1 : Nat} {x2 : Int32} (hv0 : w0 < 3) (hv1 : okR w1 c1) {v : Unit} {σ1 : Sg} (hf : f_World_layOut w0 w1 c1 x2 σ = some (v, σ1)) (hst : (st.map (fun v => v.category)).sum ≤ 8) (k : Z x g nL ρ (pc + 3) L (st) σ1) : Z x g nL ρ pc L (.int x2 :: .ref (gAd g (2, w1, c1)) :: .ref (gAd g (1, w0, 0)) :: st) σ := z_callV (ci := 9) (As := [.ref (gAd g (2, w1, c1)), .int x2]) hc hd vl_PalaceReader_107 hdd (1, w0, 0) (dm_World hv0) rfl rfl (ok_World_layOut g w0 w1 c1 x2 hv0 hv1 σ (v, σ1) hf) rfl rfl hst rfl k
def j_PalaceReader_readRug_159 (x5 : Int32) (σ : Sg) : Option (Int32 × Sg) :=
  (if x5 = (iI (-2)) then some ((iI 0), σ) else some ((iI 1), σ))
theorem sj_PalaceReader_readRug_159 {x : Cx} {g : Gv} {ρ : Option Value × Sg} (hc : Zc x g c_PalaceReader_readRug R_PalaceReader 6 (some .boolean) 7) (x5 : Int32) (σ : Sg) (r : Int32 × Sg) (hf : j_PalaceReader_readRug_159 x5 σ = some r) (hρ : ρ = (some (.int r.1), r.2)) : Z x g 6 ρ 159 [(5, .int x5)] [] σ := by
  unfold j_PalaceReader_readRug_159 at hf
  refine z_iload hc d_PalaceReader_readRug_159 0 rfl ?_
  refine z_bipush (v := (iI (-2))) hc d_PalaceReader_readRug_161 (by decide) ?_
  refine z_icmp_eq (tgt := 170) hc d_PalaceReader_readRug_163 (by decide) (fun hq => ?_) (fun hq => ?_)
  · have hf := ifp hq hf
    refine z_iconst (v := (iI 0)) hc d_PalaceReader_readRug_170 (by decide) ?_
    exact z_zret hc d_PalaceReader_readRug_171 (by decide) (rI hf hρ)
  · have hf := ifn hq hf
    refine z_iconst (v := (iI 1)) hc d_PalaceReader_readRug_166 (by decide) ?_
    refine z_goto (tgt := 171) hc d_PalaceReader_readRug_167 (by decide) ?_
    exact z_zret hc d_PalaceReader_readRug_171 (by decide) (rI hf hρ)
def j_PalaceReader_readRug_144 (w1 : Nat) (w4 : Nat) (c4 : Nat) (xs0 : Int32) (σ : Sg) : Option (Int32 × Sg) :=
  (if xs0 < (iI 0) then j_PalaceReader_readRug_159 xs0  σ else b2 (f_World_layOut w1 w4 c4 xs0 σ) (fun v21 σ22 => j_PalaceReader_readRug_159 xs0  σ22))
theorem sj_PalaceReader_readRug_144 {x : Cx} {g : Gv} {ρ : Option Value × Sg} (hc : Zc x g c_PalaceReader_readRug R_PalaceReader 6 (some .boolean) 7) (w1 : Nat) (w4 : Nat) (c4 : Nat) (xs0 : Int32) (hv1 : w1 < 3) (hv4 : okR w4 c4) (σ : Sg) (r : Int32 × Sg) (hf : j_PalaceReader_readRug_144 w1 w4 c4 xs0 σ = some r) (hρ : ρ = (some (.int r.1), r.2)) : Z x g 6 ρ 144 [(1, .ref (gAd g (1, w1, 0))), (4, .ref (gAd g (2, w4, c4)))] [.int xs0] σ := by
  unfold j_PalaceReader_readRug_144 at hf
  refine z_istore (L' := [(5, .int xs0), (1, .ref (gAd g (1, w1, 0))), (4, .ref (gAd g (2, w4, c4)))]) hc d_PalaceReader_readRug_144 (by decide) rfl ?_
  refine z_iload hc d_PalaceReader_readRug_146 0 rfl ?_
  refine z_if_lt (tgt := 159) hc d_PalaceReader_readRug_148 (by decide) (fun hq => ?_) (fun hq => ?_)
  · have hf := ifp hq hf
    refine z_sub [0] (L' := [(5, .int xs0)]) rfl ?_
    exact sj_PalaceReader_readRug_159 hc xs0    σ _ hf hρ
  · have hf := ifn hq hf
    refine z_aload_n hc d_PalaceReader_readRug_151 1 rfl ?_
    refine z_aload hc d_PalaceReader_readRug_152 2 rfl ?_
    refine z_iload hc d_PalaceReader_readRug_154 0 rfl ?_
    obtain ⟨v21, σ22, h23, hf⟩ := bd2 hf
    refine cz_PalaceReader_107 hc d_PalaceReader_readRug_156 (by decide) hv1 hv4 h23 (Nat.le_of_ble_eq_true rfl) ?_
    refine z_sub [0] (L' := [(5, .int xs0)]) rfl ?_
    exact sj_PalaceReader_readRug_159 hc xs0    σ22 _ hf hρ
def j_PalaceReader_readRug_109 (w1 : Nat) (w4 : Nat) (c4 : Nat) (xs0 : Int32) (ws1 : Nat) (cs1 : Nat) (σ : Sg) : Option (Int32 × Sg) :=
  (if ((upI σ 2 ws1 cs1 3 xs0).1 2 w4 c4 3) = (iI (-2)) then some ((iI 0), upI σ 2 ws1 cs1 3 xs0) else b2 (f_Tape_passesWord 11 (upI σ 2 ws1 cs1 3 xs0)) (fun v18 σ19 => (if v18 = (iI 0) then j_PalaceReader_readRug_144 w1 w4 c4 (iI (-1)) σ19 else b2 (f_Tape_passNumber (iI 0) (iI 39) σ19) (fun v24 σ25 => j_PalaceReader_readRug_144 w1 w4 c4 v24 σ25))))
theorem sj_PalaceReader_readRug_109 {x : Cx} {g : Gv} {ρ : Option Value × Sg} (hc : Zc x g c_PalaceReader_readRug R_PalaceReader 6 (some .boolean) 7) (w1 : Nat) (w4 : Nat) (c4 : Nat) (xs0 : Int32) (ws1 : Nat) (cs1 : Nat) (hv1 : w1 < 3) (hv4 : okR w4 c4) (hvs1 : okR ws1 cs1) (σ : Sg) (r : Int32 × Sg) (hf : j_PalaceReader_readRug_109 w1 w4 c4 xs0 ws1 cs1 σ = some r) (hρ : ρ = (some (.int r.1), r.2)) : Z x g 6 ρ 109 [(0, .ref (gAd g (4, 0, 0))), (1, .ref (gAd g (1, w1, 0))), (4, .ref (gAd g (2, w4, c4)))] [.int xs0, .ref (gAd g (2, ws1, cs1))] σ := by
  unfold j_PalaceReader_readRug_109 at hf
  refine pf_PalaceReader_103 hc d_PalaceReader_readRug_109 hvs1 ?_
  refine z_aload hc d_PalaceReader_readRug_112 2 rfl ?_
  refine gf_PalaceReader_103 hc d_PalaceReader_readRug_114 hv4 ?_
  refine z_bipush (v := (iI (-2))) hc d_PalaceReader_readRug_117 (by decide) ?_
  refine z_icmp_ne (tgt := 124) hc d_PalaceReader_readRug_119 (by decide) (fun hq => ?_) (fun hq => ?_)
  · have hf := ifn hq hf
    refine z_aload_n hc d_PalaceReader_readRug_124 0 rfl ?_
    refine z_ldcS (i := 11) hc (List.mem_of_getElem? (i := 5) rfl) d_PalaceReader_readRug_125 ?_
    obtain ⟨v18, σ19, h20, hf⟩ := bd2 hf
    refine cz_PalaceReader_32 hc d_PalaceReader_readRug_127 (by decide) (by decide) h20 (Nat.le_of_ble_eq_true rfl) ?_
    refine z_if_eq (tgt := 143) hc d_PalaceReader_readRug_130 (by decide) (fun hq => ?_) (fun hq => ?_)
    · have hf := ifp hq hf
      refine z_iconst (v := (iI (-1))) hc d_PalaceReader_readRug_143 (by decide) ?_
      refine z_sub [1, 2] (L' := [(1, .ref (gAd g (1, w1, 0))), (4, .ref (gAd g (2, w4, c4)))]) rfl ?_
      exact sj_PalaceReader_readRug_144 hc w1 w4 c4 (iI (-1)) hv1 hv4  σ19 _ hf hρ
    · have hf := ifn hq hf
      refine z_aload_n hc d_PalaceReader_readRug_133 0 rfl ?_
      refine z_iconst (v := (iI 0)) hc d_PalaceReader_readRug_134 (by decide) ?_
      refine z_bipush (v := (iI 39)) hc d_PalaceReader_readRug_135 (by decide) ?_
      obtain ⟨v24, σ25, h26, hf⟩ := bd2 hf
      refine cz_PalaceReader_83 hc d_PalaceReader_readRug_137 (by decide)  h26 (Nat.le_of_ble_eq_true rfl) ?_
      refine z_goto (tgt := 144) hc d_PalaceReader_readRug_140 (by decide) ?_
      refine z_sub [1, 2] (L' := [(1, .ref (gAd g (1, w1, 0))), (4, .ref (gAd g (2, w4, c4)))]) rfl ?_
      exact sj_PalaceReader_readRug_144 hc w1 w4 c4 v24 hv1 hv4  σ25 _ hf hρ
  · have hf := ifp hq hf
    refine z_iconst (v := (iI 0)) hc d_PalaceReader_readRug_122 (by decide) ?_
    exact z_zret hc d_PalaceReader_readRug_123 (by decide) (rI hf hρ)
def j_PalaceReader_readRug_71 (w1 : Nat) (w4 : Nat) (c4 : Nat) (xs0 : Int32) (ws1 : Nat) (cs1 : Nat) (σ : Sg) : Option (Int32 × Sg) :=
  (if ((upI σ 2 ws1 cs1 2 xs0).1 2 w4 c4 2) = (iI (-2)) then some ((iI 0), upI σ 2 ws1 cs1 2 xs0) else b2 (f_Tape_passesWord 10 (upI σ 2 ws1 cs1 2 xs0)) (fun v15 σ16 => (if v15 = (iI 0) then j_PalaceReader_readRug_109 w1 w4 c4 (iI 50) w4 c4 σ16 else b2 (f_Tape_passNumber (iI 0) (iI 99) σ16) (fun v27 σ28 => j_PalaceReader_readRug_109 w1 w4 c4 v27 w4 c4 σ28))))
theorem sj_PalaceReader_readRug_71 {x : Cx} {g : Gv} {ρ : Option Value × Sg} (hc : Zc x g c_PalaceReader_readRug R_PalaceReader 6 (some .boolean) 7) (w1 : Nat) (w4 : Nat) (c4 : Nat) (xs0 : Int32) (ws1 : Nat) (cs1 : Nat) (hv1 : w1 < 3) (hv4 : okR w4 c4) (hvs1 : okR ws1 cs1) (σ : Sg) (r : Int32 × Sg) (hf : j_PalaceReader_readRug_71 w1 w4 c4 xs0 ws1 cs1 σ = some r) (hρ : ρ = (some (.int r.1), r.2)) : Z x g 6 ρ 71 [(0, .ref (gAd g (4, 0, 0))), (1, .ref (gAd g (1, w1, 0))), (4, .ref (gAd g (2, w4, c4)))] [.int xs0, .ref (gAd g (2, ws1, cs1))] σ := by
  unfold j_PalaceReader_readRug_71 at hf
  refine pf_PalaceReader_98 hc d_PalaceReader_readRug_71 hvs1 ?_
  refine z_aload hc d_PalaceReader_readRug_74 2 rfl ?_
  refine gf_PalaceReader_98 hc d_PalaceReader_readRug_76 hv4 ?_
  refine z_bipush (v := (iI (-2))) hc d_PalaceReader_readRug_79 (by decide) ?_
  refine z_icmp_ne (tgt := 86) hc d_PalaceReader_readRug_81 (by decide) (fun hq => ?_) (fun hq => ?_)
  · have hf := ifn hq hf
    refine z_aload hc d_PalaceReader_readRug_86 2 rfl ?_
    refine z_aload_n hc d_PalaceReader_readRug_88 0 rfl ?_
    refine z_ldcS (i := 10) hc (List.mem_of_getElem? (i := 4) rfl) d_PalaceReader_readRug_89 ?_
    obtain ⟨v15, σ16, h17, hf⟩ := bd2 hf
    refine cz_PalaceReader_32 hc d_PalaceReader_readRug_91 (by decide) (by decide) h17 (Nat.le_of_ble_eq_true rfl) ?_
    refine z_if_eq (tgt := 107) hc d_PalaceReader_readRug_94 (by decide) (fun hq => ?_) (fun hq => ?_)
    · have hf := ifp hq hf
      refine z_bipush (v := (iI 50)) hc d_PalaceReader_readRug_107 (by decide) ?_
      refine z_sub [0, 1, 2] (L' := [(0, .ref (gAd g (4, 0, 0))), (1, .ref (gAd g (1, w1, 0))), (4, .ref (gAd g (2, w4, c4)))]) rfl ?_
      exact sj_PalaceReader_readRug_109 hc w1 w4 c4 (iI 50) w4 c4 hv1 hv4 hv4 σ16 _ hf hρ
    · have hf := ifn hq hf
      refine z_aload_n hc d_PalaceReader_readRug_97 0 rfl ?_
      refine z_iconst (v := (iI 0)) hc d_PalaceReader_readRug_98 (by decide) ?_
      refine z_bipush (v := (iI 99)) hc d_PalaceReader_readRug_99 (by decide) ?_
      obtain ⟨v27, σ28, h29, hf⟩ := bd2 hf
      refine cz_PalaceReader_83 hc d_PalaceReader_readRug_101 (by decide)  h29 (Nat.le_of_ble_eq_true rfl) ?_
      refine z_goto (tgt := 109) hc d_PalaceReader_readRug_104 (by decide) ?_
      refine z_sub [0, 1, 2] (L' := [(0, .ref (gAd g (4, 0, 0))), (1, .ref (gAd g (1, w1, 0))), (4, .ref (gAd g (2, w4, c4)))]) rfl ?_
      exact sj_PalaceReader_readRug_109 hc w1 w4 c4 v27 w4 c4 hv1 hv4 hv4 σ28 _ hf hρ
  · have hf := ifp hq hf
    refine z_iconst (v := (iI 0)) hc d_PalaceReader_readRug_84 (by decide) ?_
    exact z_zret hc d_PalaceReader_readRug_85 (by decide) (rI hf hρ)
def f_PalaceReader_readRug (w1 : Nat) (w2 : Nat) (σ : Sg) : Option (Int32 × Sg) :=
  b2 (f_World_addRug w1 w2 (iI 0) σ) (fun v1 σ2 => (if (iI 0) ≤ v1 then Option.bind (rd v1 8) (fun j4 => b2 (f_Tape_toNextToken  σ2) (fun v6 σ7 => b2 (f_Tape_passNumber (iI 0) (iI 3) σ7) (fun v9 σ10 => (if ((upI σ10 2 w1 j4 1 v9).1 2 w1 j4 1) = (iI (-2)) then some ((iI 0), upI σ10 2 w1 j4 1 v9) else b2 (f_Tape_passesWord 9 (upI σ10 2 w1 j4 1 v9)) (fun v12 σ13 => (if v12 = (iI 0) then j_PalaceReader_readRug_71 w1 w1 j4 (iI 8) w1 j4 σ13 else b2 (f_Tape_passNumber (iI 1) (iI 20) σ13) (fun v30 σ31 => j_PalaceReader_readRug_71 w1 w1 j4 v30 w1 j4 σ31))))))) else some ((iI 0), σ2)))
theorem ok_PalaceReader_readRug (g : Gv) (w1 : Nat) (w2 : Nat) (hv1 : w1 < 3) (hv2 : w2 < 6) (σ : Sg) (r : Int32 × Sg) (hf : f_PalaceReader_readRug w1 w2 σ = some r) : Ok g y_PalaceReader_readRug c_PalaceReader_readRug 6 (some .boolean) 7 [.ref (gAd g (4, 0, 0)), .ref (gAd g (1, w1, 0)), .ref (gAd g (5, w2, 0))] σ (some (.int r.1), r.2) := by
  unfold f_PalaceReader_readRug at hf
  refine Ok.of [(0, .ref (gAd g (4, 0, 0))), (1, .ref (gAd g (1, w1, 0))), (2, .ref (gAd g (5, w2, 0)))] (by decide) (Nat.le_of_ble_eq_true rfl) rfl ?_
  intro x hc
  have hc : Zc x g c_PalaceReader_readRug R_PalaceReader 6 (some .boolean) 7 := hc
  obtain ⟨ρ, hρ⟩ : ∃ ρ : Option Value × Sg, ρ = (some (.int r.1), r.2) := ⟨_, rfl⟩
  rw [← hρ]
  refine z_aload_n hc d_PalaceReader_readRug_0 1 rfl ?_
  refine z_aload_n hc d_PalaceReader_readRug_1 2 rfl ?_
  refine z_iconst (v := (iI 0)) hc d_PalaceReader_readRug_2 (by decide) ?_
  obtain ⟨v1, σ2, h3, hf⟩ := bd2 hf
  refine cz_PalaceReader_89 hc d_PalaceReader_readRug_3 (by decide) hv1 hv2 h3 (Nat.le_of_ble_eq_true rfl) ?_
  refine z_istore_n (L' := [(3, .int v1), (0, .ref (gAd g (4, 0, 0))), (1, .ref (gAd g (1, w1, 0))), (2, .ref (gAd g (5, w2, 0)))]) hc d_PalaceReader_readRug_6 (by decide) rfl ?_
  refine z_iload_n hc d_PalaceReader_readRug_7 0 rfl ?_
  refine z_if_ge (tgt := 13) hc d_PalaceReader_readRug_8 (by decide) (fun hq => ?_) (fun hq => ?_)
  · have hf := ifp hq hf
    refine z_aload_n hc d_PalaceReader_readRug_13 2 rfl ?_
    refine gf_PalaceReader_70 hc d_PalaceReader_readRug_14 hv1 ?_
    refine z_iload_n hc d_PalaceReader_readRug_17 0 rfl ?_
    obtain ⟨j4, hj5, hf⟩ := bd hf
    refine ald_rugs hc d_PalaceReader_readRug_18 hv1 hj5 ?_
    refine z_astore (L' := [(4, .ref (gAd g (2, w1, j4))), (3, .int v1), (0, .ref (gAd g (4, 0, 0))), (1, .ref (gAd g (1, w1, 0))), (2, .ref (gAd g (5, w2, 0)))]) hc d_PalaceReader_readRug_19 (by decide) rfl ?_
    refine z_aload_n hc d_PalaceReader_readRug_21 2 rfl ?_
    obtain ⟨v6, σ7, h8, hf⟩ := bd2 hf
    refine cz_PalaceReader_24 hc d_PalaceReader_readRug_22 (by decide)  h8 (Nat.le_of_ble_eq_true rfl) ?_
    refine z_aload hc d_PalaceReader_readRug_25 0 rfl ?_
    refine z_aload_n hc d_PalaceReader_readRug_27 2 rfl ?_
    refine z_iconst (v := (iI 0)) hc d_PalaceReader_readRug_28 (by decide) ?_
    refine z_iconst (v := (iI 3)) hc d_PalaceReader_readRug_29 (by decide) ?_
    obtain ⟨v9, σ10, h11, hf⟩ := bd2 hf
    refine cz_PalaceReader_83 hc d_PalaceReader_readRug_30 (by decide)  h11 (Nat.le_of_ble_eq_true rfl) ?_
    refine pf_PalaceReader_93 hc d_PalaceReader_readRug_33 (okR_of hv1 (rd_lt hj5)) ?_
    refine z_aload hc d_PalaceReader_readRug_36 0 rfl ?_
    refine gf_PalaceReader_93 hc d_PalaceReader_readRug_38 (okR_of hv1 (rd_lt hj5)) ?_
    refine z_bipush (v := (iI (-2))) hc d_PalaceReader_readRug_41 (by decide) ?_
    refine z_icmp_ne (tgt := 48) hc d_PalaceReader_readRug_43 (by decide) (fun hq => ?_) (fun hq => ?_)
    · have hf := ifn hq hf
      refine z_aload hc d_PalaceReader_readRug_48 0 rfl ?_
      refine z_aload_n hc d_PalaceReader_readRug_50 2 rfl ?_
      refine z_ldcS (i := 9) hc (List.mem_of_getElem? (i := 3) rfl) d_PalaceReader_readRug_51 ?_
      obtain ⟨v12, σ13, h14, hf⟩ := bd2 hf
      refine cz_PalaceReader_32 hc d_PalaceReader_readRug_53 (by decide) (by decide) h14 (Nat.le_of_ble_eq_true rfl) ?_
      refine z_if_eq (tgt := 69) hc d_PalaceReader_readRug_56 (by decide) (fun hq => ?_) (fun hq => ?_)
      · have hf := ifp hq hf
        refine z_bipush (v := (iI 8)) hc d_PalaceReader_readRug_69 (by decide) ?_
        refine z_sub [2, 3, 0] (L' := [(0, .ref (gAd g (4, 0, 0))), (1, .ref (gAd g (1, w1, 0))), (4, .ref (gAd g (2, w1, j4)))]) rfl ?_
        exact sj_PalaceReader_readRug_71 hc w1 w1 j4 (iI 8) w1 j4 hv1 (okR_of hv1 (rd_lt hj5)) (okR_of hv1 (rd_lt hj5)) σ13 _ hf hρ
      · have hf := ifn hq hf
        refine z_aload_n hc d_PalaceReader_readRug_59 2 rfl ?_
        refine z_iconst (v := (iI 1)) hc d_PalaceReader_readRug_60 (by decide) ?_
        refine z_bipush (v := (iI 20)) hc d_PalaceReader_readRug_61 (by decide) ?_
        obtain ⟨v30, σ31, h32, hf⟩ := bd2 hf
        refine cz_PalaceReader_83 hc d_PalaceReader_readRug_63 (by decide)  h32 (Nat.le_of_ble_eq_true rfl) ?_
        refine z_goto (tgt := 71) hc d_PalaceReader_readRug_66 (by decide) ?_
        refine z_sub [2, 3, 0] (L' := [(0, .ref (gAd g (4, 0, 0))), (1, .ref (gAd g (1, w1, 0))), (4, .ref (gAd g (2, w1, j4)))]) rfl ?_
        exact sj_PalaceReader_readRug_71 hc w1 w1 j4 v30 w1 j4 hv1 (okR_of hv1 (rd_lt hj5)) (okR_of hv1 (rd_lt hj5)) σ31 _ hf hρ
    · have hf := ifp hq hf
      refine z_iconst (v := (iI 0)) hc d_PalaceReader_readRug_46 (by decide) ?_
      exact z_zret hc d_PalaceReader_readRug_47 (by decide) (rI hf hρ)
  · have hf := ifn hq hf
    refine z_iconst (v := (iI 0)) hc d_PalaceReader_readRug_11 (by decide) ?_
    exact z_zret hc d_PalaceReader_readRug_12 (by decide) (rI hf hρ)
theorem vl_PalaceReader_54 : VL R_PalaceReader 54 y_Tape_isWord c_Tape_isWord 3 (some .boolean) 1 := ⟨tb4 33 (by decide +kernel) (by decide +kernel), tb3 202 (by decide +kernel) (by decide +kernel), tb3 203 (by decide +kernel) (by decide +kernel), tb1 10 (by decide +kernel) (by decide +kernel), k_Tape_isWord, by decide, by decide, by decide +kernel, by decide⟩
theorem cz_PalaceReader_54 {x : Cx} {g : Gv} {cc : ByteArray} {nL d pc : Nat} {ret : Option FieldType} {ρ : Option Value × Sg} {L : List (Nat × Value)} {st : List Value} {σ : Sg} (hc : Zc x g cc R_PalaceReader nL ret d) (hd : decode cc pc = .ok (.invokevirtual 54, 3)) (hdd : 6 ≤ d) {t1 : Nat} (ht1 : t1 < 12) {v : Int32} {σ1 : Sg} (hf : f_Tape_isWord t1 σ = some (v, σ1)) (hst : (st.map (fun v => v.category)).sum ≤ 8) (k : Z x g nL ρ (pc + 3) L (.int v :: st) σ1) : Z x g nL ρ pc L (.ref (g.2.2.2.1 t1) :: .ref (gAd g (4, 0, 0)) :: st) σ := z_callV (ci := 7) (As := [.ref (g.2.2.2.1 t1)]) hc hd vl_PalaceReader_54 hdd (4, 0, 0) (dm_Tape) rfl rfl (ok_Tape_isWord g t1 ht1 σ (v, σ1) hf) rfl rfl hst rfl k
theorem vl_PalaceReader_57 : SL R_PalaceReader 57 y_PalaceReader_readRug c_PalaceReader_readRug 6 (some .boolean) 3 := ⟨tb4 34 (by decide +kernel) (by decide +kernel), tb4 35 (by decide +kernel) (by decide +kernel), tb1 17 (by decide +kernel) (by decide +kernel), k_PalaceReader_readRug, by decide, by decide, by decide +kernel, by decide⟩
theorem cz_PalaceReader_57 {x : Cx} {g : Gv} {cc : ByteArray} {nL d pc : Nat} {ret : Option FieldType} {ρ : Option Value × Sg} {L : List (Nat × Value)} {st : List Value} {σ : Sg} (hc : Zc x g cc R_PalaceReader nL ret d) (hd : decode cc pc = .ok (.invokestatic 57, 3)) (hdd : 8 ≤ d) {w1 : Nat} {w2 : Nat} (hv1 : w1 < 3) (hv2 : w2 < 6) {v : Int32} {σ1 : Sg} (hf : f_PalaceReader_readRug w1 w2 σ = some (v, σ1)) (hst : (st.map (fun v => v.category)).sum ≤ 8) (k : Z x g nL ρ (pc + 3) L (.int v :: st) σ1) : Z x g nL ρ pc L (.ref (gAd g (5, w2, 0)) :: .ref (gAd g (1, w1, 0)) :: .ref (gAd g (4, 0, 0)) :: st) σ := z_callS (As := [.ref (gAd g (4, 0, 0)), .ref (gAd g (1, w1, 0)), .ref (gAd g (5, w2, 0))]) hc hd vl_PalaceReader_57 hdd (ok_PalaceReader_readRug g w1 w2 hv1 hv2 σ (v, σ1) hf) rfl rfl hst rfl k
theorem vl_PalaceReader_42 : SL R_PalaceReader 42 y_PalaceReader_readPlace c_PalaceReader_readPlace 4 (some .boolean) 3 := ⟨tb4 24 (by decide +kernel) (by decide +kernel), tb4 25 (by decide +kernel) (by decide +kernel), tb1 17 (by decide +kernel) (by decide +kernel), k_PalaceReader_readPlace, by decide, by decide, by decide +kernel, by decide⟩
theorem cz_PalaceReader_42 {x : Cx} {g : Gv} {cc : ByteArray} {nL d pc : Nat} {ret : Option FieldType} {ρ : Option Value × Sg} {L : List (Nat × Value)} {st : List Value} {σ : Sg} (hc : Zc x g cc R_PalaceReader nL ret d) (hd : decode cc pc = .ok (.invokestatic 42, 3)) (hdd : 4 ≤ d) {w1 : Nat} {x2 : Int32} (hv1 : w1 < 3) {v : Int32} {σ1 : Sg} (hf : f_PalaceReader_readPlace w1 x2 σ = some (v, σ1)) (hst : (st.map (fun v => v.category)).sum ≤ 8) (k : Z x g nL ρ (pc + 3) L (.int v :: st) σ1) : Z x g nL ρ pc L (.int x2 :: .ref (gAd g (1, w1, 0)) :: .ref (gAd g (4, 0, 0)) :: st) σ := z_callS (As := [.ref (gAd g (4, 0, 0)), .ref (gAd g (1, w1, 0)), .int x2]) hc hd vl_PalaceReader_42 hdd (ok_PalaceReader_readPlace g w1 x2 hv1 σ (v, σ1) hf) rfl rfl hst rfl k
theorem vl_PalaceReader_36 : SL R_PalaceReader 36 y_PalaceReader_readUp c_PalaceReader_readUp 3 (some .boolean) 2 := ⟨tb4 13 (by decide +kernel) (by decide +kernel), tb4 14 (by decide +kernel) (by decide +kernel), tb1 17 (by decide +kernel) (by decide +kernel), k_PalaceReader_readUp, by decide, by decide, by decide +kernel, by decide⟩
theorem cz_PalaceReader_36 {x : Cx} {g : Gv} {cc : ByteArray} {nL d pc : Nat} {ret : Option FieldType} {ρ : Option Value × Sg} {L : List (Nat × Value)} {st : List Value} {σ : Sg} (hc : Zc x g cc R_PalaceReader nL ret d) (hd : decode cc pc = .ok (.invokestatic 36, 3)) (hdd : 3 ≤ d) {w1 : Nat} (hv1 : w1 < 3) {v : Int32} {σ1 : Sg} (hf : f_PalaceReader_readUp w1 σ = some (v, σ1)) (hst : (st.map (fun v => v.category)).sum ≤ 8) (k : Z x g nL ρ (pc + 3) L (.int v :: st) σ1) : Z x g nL ρ pc L (.ref (gAd g (1, w1, 0)) :: .ref (gAd g (4, 0, 0)) :: st) σ := z_callS (As := [.ref (gAd g (4, 0, 0)), .ref (gAd g (1, w1, 0))]) hc hd vl_PalaceReader_36 hdd (ok_PalaceReader_readUp g w1 hv1 σ (v, σ1) hf) rfl rfl hst rfl k
def b_PalaceReader_readItem_49 (w1 : Nat) (x3 : Int32) (σ : Sg) : Option ((Int32 × Sg) ⊕ ((Int32 × Sg) ⊕ (Sg))) :=
  (if (iI 6) ≤ x3 then some (.inr (.inr σ)) else Option.bind (rd x3 6) (fun j10 => b2 (f_Tape_isWord j10 σ) (fun v12 σ13 => (if v12 = (iI 0) then some (.inl (x3 + (iI 1), σ13)) else some (.inr (.inl (x3, σ13)))))))
theorem sb_PalaceReader_readItem_49 {x : Cx} {g : Gv} {ρ : Option Value × Sg} (hc : Zc x g c_PalaceReader_readItem R_PalaceReader 4 (some .boolean) 8) (w1 : Nat) (hv1 : w1 < 3) (x3 : Int32) (σ : Sg) (r : (Int32 × Sg) ⊕ ((Int32 × Sg) ⊕ (Sg))) (hf : b_PalaceReader_readItem_49 w1 x3 σ = some r) (hi : ∀ a', r = .inl a' → Z x g 4 ρ 49 [(0, .ref (gAd g (4, 0, 0))), (1, .ref (gAd g (1, w1, 0))), (2, .ref (gAd g (10, 0, 0))), (3, .int a'.1)] [] a'.2) (he0 : ∀ b, r = .inr (.inl b) → Z x g 4 ρ 68 [(0, .ref (gAd g (4, 0, 0))), (1, .ref (gAd g (1, w1, 0))), (2, .ref (gAd g (10, 0, 0))), (3, .int b.1)] [] b.2) (he1 : ∀ b, r = .inr (.inr b) → Z x g 4 ρ 83 [] [] b) : Z x g 4 ρ 49 [(0, .ref (gAd g (4, 0, 0))), (1, .ref (gAd g (1, w1, 0))), (2, .ref (gAd g (10, 0, 0))), (3, .int x3)] [] σ := by
  unfold b_PalaceReader_readItem_49 at hf
  refine z_iload_n hc d_PalaceReader_readItem_49 3 rfl ?_
  refine z_aload_n hc d_PalaceReader_readItem_50 2 rfl ?_
  refine aln_kinds hc d_PalaceReader_readItem_51  ?_
  refine z_icmp_ge (tgt := 83) hc d_PalaceReader_readItem_52 (by decide) (fun hq => ?_) (fun hq => ?_)
  · have hf := ifp hq hf
    refine z_sub [] (L' := []) rfl ?_
    exact he1 σ (Option.some.inj hf).symm
  · have hf := ifn hq hf
    refine z_aload_n hc d_PalaceReader_readItem_55 0 rfl ?_
    refine z_aload_n hc d_PalaceReader_readItem_56 2 rfl ?_
    refine z_iload_n hc d_PalaceReader_readItem_57 3 rfl ?_
    obtain ⟨j10, hj11, hf⟩ := bd hf
    refine ald_kinds hc d_PalaceReader_readItem_58  hj11 ?_
    refine gf_PalaceReader_48 hc d_PalaceReader_readItem_59 (rd_lt hj11) ?_
    obtain ⟨v12, σ13, h14, hf⟩ := bd2 hf
    refine cz_PalaceReader_54 hc d_PalaceReader_readItem_62 (by decide) (lt6_12 (rd_lt hj11)) h14 (Nat.le_of_ble_eq_true rfl) ?_
    refine z_if_eq (tgt := 77) hc d_PalaceReader_readItem_65 (by decide) (fun hq => ?_) (fun hq => ?_)
    · have hf := ifp hq hf
      refine z_iinc (v := x3 + (iI 1)) (L' := [(3, .int (x3 + (iI 1))), (0, .ref (gAd g (4, 0, 0))), (1, .ref (gAd g (1, w1, 0))), (2, .ref (gAd g (10, 0, 0)))]) hc d_PalaceReader_readItem_77 3 rfl rfl (by decide) rfl ?_
      refine z_goto (tgt := 49) hc d_PalaceReader_readItem_80 (by decide) ?_
      refine z_sub [1, 2, 3, 0] (L' := [(0, .ref (gAd g (4, 0, 0))), (1, .ref (gAd g (1, w1, 0))), (2, .ref (gAd g (10, 0, 0))), (3, .int (x3 + (iI 1)))]) rfl ?_
      exact hi (x3 + (iI 1), σ13) (Option.some.inj hf).symm
    · have hf := ifn hq hf
      refine z_sub [0, 1, 2, 3] (L' := [(0, .ref (gAd g (4, 0, 0))), (1, .ref (gAd g (1, w1, 0))), (2, .ref (gAd g (10, 0, 0))), (3, .int x3)]) rfl ?_
      exact he0 (x3, σ13) (Option.some.inj hf).symm
def f_PalaceReader_readItem (w1 : Nat) (σ : Sg) : Option (Int32 × Sg) :=
  b2 (f_Tape_passesWord 6 σ) (fun v1 σ2 => (if v1 = (iI 0) then b2 (f_Tape_passesWord 7 σ2) (fun v4 σ5 => (if v4 = (iI 0) then b2 (f_Tape_passesWord 8 σ5) (fun v7 σ8 => (if v7 = (iI 0) then Option.bind (lp (fun a => b_PalaceReader_readItem_49 w1 a.1 a.2) FU ((iI 0), σ8)) (fun z => Sum.elim (fun b25 => Option.bind (rd b25.1 6) (fun j18 => b2 (f_PalaceReader_readRug w1 j18 b25.2) (fun v20 σ21 => Option.bind (bo v20) (fun r23 => some (r23, σ21))))) (fun b26 => some ((iI 0), b26)) z) else b2 (f_PalaceReader_readPlace w1 (iI 0) σ8) (fun v28 σ29 => Option.bind (bo v28) (fun r31 => some (r31, σ29))))) else b2 (f_PalaceReader_readPlace w1 (iI 1) σ5) (fun v32 σ33 => Option.bind (bo v32) (fun r35 => some (r35, σ33))))) else b2 (f_PalaceReader_readUp w1 σ2) (fun v36 σ37 => Option.bind (bo v36) (fun r39 => some (r39, σ37)))))
theorem ok_PalaceReader_readItem (g : Gv) (w1 : Nat) (hv1 : w1 < 3) (σ : Sg) (r : Int32 × Sg) (hf : f_PalaceReader_readItem w1 σ = some r) : Ok g y_PalaceReader_readItem c_PalaceReader_readItem 4 (some .boolean) 8 [.ref (gAd g (4, 0, 0)), .ref (gAd g (1, w1, 0)), .ref (gAd g (10, 0, 0))] σ (some (.int r.1), r.2) := by
  unfold f_PalaceReader_readItem at hf
  refine Ok.of [(0, .ref (gAd g (4, 0, 0))), (1, .ref (gAd g (1, w1, 0))), (2, .ref (gAd g (10, 0, 0)))] (by decide) (Nat.le_of_ble_eq_true rfl) rfl ?_
  intro x hc
  have hc : Zc x g c_PalaceReader_readItem R_PalaceReader 4 (some .boolean) 8 := hc
  obtain ⟨ρ, hρ⟩ : ∃ ρ : Option Value × Sg, ρ = (some (.int r.1), r.2) := ⟨_, rfl⟩
  rw [← hρ]
  refine z_aload_n hc d_PalaceReader_readItem_0 0 rfl ?_
  refine z_ldcS (i := 6) hc (List.mem_of_getElem? (i := 0) rfl) d_PalaceReader_readItem_1 ?_
  obtain ⟨v1, σ2, h3, hf⟩ := bd2 hf
  refine cz_PalaceReader_32 hc d_PalaceReader_readItem_3 (by decide) (by decide) h3 (Nat.le_of_ble_eq_true rfl) ?_
  refine z_if_eq (tgt := 15) hc d_PalaceReader_readItem_6 (by decide) (fun hq => ?_) (fun hq => ?_)
  · have hf := ifp hq hf
    refine z_aload_n hc d_PalaceReader_readItem_15 0 rfl ?_
    refine z_ldcS (i := 7) hc (List.mem_of_getElem? (i := 1) rfl) d_PalaceReader_readItem_16 ?_
    obtain ⟨v4, σ5, h6, hf⟩ := bd2 hf
    refine cz_PalaceReader_32 hc d_PalaceReader_readItem_18 (by decide) (by decide) h6 (Nat.le_of_ble_eq_true rfl) ?_
    refine z_if_eq (tgt := 31) hc d_PalaceReader_readItem_21 (by decide) (fun hq => ?_) (fun hq => ?_)
    · have hf := ifp hq hf
      refine z_aload_n hc d_PalaceReader_readItem_31 0 rfl ?_
      refine z_ldcS (i := 8) hc (List.mem_of_getElem? (i := 2) rfl) d_PalaceReader_readItem_32 ?_
      obtain ⟨v7, σ8, h9, hf⟩ := bd2 hf
      refine cz_PalaceReader_32 hc d_PalaceReader_readItem_34 (by decide) (by decide) h9 (Nat.le_of_ble_eq_true rfl) ?_
      refine z_if_eq (tgt := 47) hc d_PalaceReader_readItem_37 (by decide) (fun hq => ?_) (fun hq => ?_)
      · have hf := ifp hq hf
        refine z_iconst (v := (iI 0)) hc d_PalaceReader_readItem_47 (by decide) ?_
        refine z_istore_n (L' := [(3, .int (iI 0)), (0, .ref (gAd g (4, 0, 0))), (1, .ref (gAd g (1, w1, 0))), (2, .ref (gAd g (10, 0, 0)))]) hc d_PalaceReader_readItem_48 (by decide) rfl ?_
        refine z_sub [1, 2, 3, 0] (L' := [(0, .ref (gAd g (4, 0, 0))), (1, .ref (gAd g (1, w1, 0))), (2, .ref (gAd g (10, 0, 0))), (3, .int (iI 0))]) rfl ?_
        obtain ⟨q15, hl27, hf⟩ := bd hf
        refine lp_walk (α := (Int32 × Sg)) (β := ((Int32 × Sg) ⊕ (Sg))) (body := (fun a : (Int32 × Sg) => b_PalaceReader_readItem_49 w1 a.1 a.2)) (In := (fun a : (Int32 × Sg) => Z x g 4 ρ 49 [(0, .ref (gAd g (4, 0, 0))), (1, .ref (gAd g (1, w1, 0))), (2, .ref (gAd g (10, 0, 0))), (3, .int a.1)] [] a.2)) (Out := (Sum.elim (fun b => Z x g 4 ρ 68 [(0, .ref (gAd g (4, 0, 0))), (1, .ref (gAd g (1, w1, 0))), (2, .ref (gAd g (10, 0, 0))), (3, .int b.1)] [] b.2) (fun b => Z x g 4 ρ 83 [] [] b))) (fun a r hb hi ho => sb_PalaceReader_readItem_49 hc w1 hv1 a.1 a.2 r hb hi (fun b e => ho _ e) (fun b e => ho _ e)) FU ((iI 0), σ8) _ hl27 ?_
        rcases q15 with ⟨y16, σ17⟩ | q15
        · try dsimp only [Sum.elim_inl, Sum.elim_inr] at hf
          try dsimp only [Sum.elim_inl, Sum.elim_inr]
          refine z_aload_n hc d_PalaceReader_readItem_68 0 rfl ?_
          refine z_aload_n hc d_PalaceReader_readItem_69 1 rfl ?_
          refine z_aload_n hc d_PalaceReader_readItem_70 2 rfl ?_
          refine z_iload_n hc d_PalaceReader_readItem_71 3 rfl ?_
          obtain ⟨j18, hj19, hf⟩ := bd hf
          refine ald_kinds hc d_PalaceReader_readItem_72  hj19 ?_
          obtain ⟨v20, σ21, h22, hf⟩ := bd2 hf
          refine cz_PalaceReader_57 hc d_PalaceReader_readItem_73 (by decide) hv1 (rd_lt hj19) h22 (Nat.le_of_ble_eq_true rfl) ?_
          obtain ⟨r23, hb1, hf⟩ := bd hf
          exact z_bret hc d_PalaceReader_readItem_76 hb1 hf hρ
        try dsimp only [Sum.elim_inl, Sum.elim_inr] at hf
        try dsimp only [Sum.elim_inl, Sum.elim_inr]
        · obtain ⟨σ24, rfl⟩ : ∃ z, z = q15 := ⟨_, rfl⟩
          try dsimp only [Sum.elim_inl, Sum.elim_inr] at hf
          try dsimp only [Sum.elim_inl, Sum.elim_inr]
          refine z_iconst (v := (iI 0)) hc d_PalaceReader_readItem_83 (by decide) ?_
          exact z_zret hc d_PalaceReader_readItem_84 (by decide) (rI hf hρ)
      · have hf := ifn hq hf
        refine z_aload_n hc d_PalaceReader_readItem_40 0 rfl ?_
        refine z_aload_n hc d_PalaceReader_readItem_41 1 rfl ?_
        refine z_iconst (v := (iI 0)) hc d_PalaceReader_readItem_42 (by decide) ?_
        obtain ⟨v28, σ29, h30, hf⟩ := bd2 hf
        refine cz_PalaceReader_42 hc d_PalaceReader_readItem_43 (by decide) hv1 h30 (Nat.le_of_ble_eq_true rfl) ?_
        obtain ⟨r31, hb1, hf⟩ := bd hf
        exact z_bret hc d_PalaceReader_readItem_46 hb1 hf hρ
    · have hf := ifn hq hf
      refine z_aload_n hc d_PalaceReader_readItem_24 0 rfl ?_
      refine z_aload_n hc d_PalaceReader_readItem_25 1 rfl ?_
      refine z_iconst (v := (iI 1)) hc d_PalaceReader_readItem_26 (by decide) ?_
      obtain ⟨v32, σ33, h34, hf⟩ := bd2 hf
      refine cz_PalaceReader_42 hc d_PalaceReader_readItem_27 (by decide) hv1 h34 (Nat.le_of_ble_eq_true rfl) ?_
      obtain ⟨r35, hb1, hf⟩ := bd hf
      exact z_bret hc d_PalaceReader_readItem_30 hb1 hf hρ
  · have hf := ifn hq hf
    refine z_aload_n hc d_PalaceReader_readItem_9 0 rfl ?_
    refine z_aload_n hc d_PalaceReader_readItem_10 1 rfl ?_
    obtain ⟨v36, σ37, h38, hf⟩ := bd2 hf
    refine cz_PalaceReader_36 hc d_PalaceReader_readItem_11 (by decide) hv1 h38 (Nat.le_of_ble_eq_true rfl) ?_
    obtain ⟨r39, hb1, hf⟩ := bd hf
    exact z_bret hc d_PalaceReader_readItem_14 hb1 hf hρ
theorem vl_PalaceReader_9 : VL R_PalaceReader 9 y_Tape_toFirstToken c_Tape_toFirstToken 1 none 0 := ⟨tb3 181 (by decide +kernel) (by decide +kernel), tb3 182 (by decide +kernel) (by decide +kernel), tb3 183 (by decide +kernel) (by decide +kernel), tb1 10 (by decide +kernel) (by decide +kernel), k_Tape_toFirstToken, by decide, by decide, by decide +kernel, by decide⟩
theorem cz_PalaceReader_9 {x : Cx} {g : Gv} {cc : ByteArray} {nL d pc : Nat} {ret : Option FieldType} {ρ : Option Value × Sg} {L : List (Nat × Value)} {st : List Value} {σ : Sg} (hc : Zc x g cc R_PalaceReader nL ret d) (hd : decode cc pc = .ok (.invokevirtual 9, 3)) (hdd : 3 ≤ d) {v : Unit} {σ1 : Sg} (hf : f_Tape_toFirstToken σ = some (v, σ1)) (hst : (st.map (fun v => v.category)).sum ≤ 8) (k : Z x g nL ρ (pc + 3) L (st) σ1) : Z x g nL ρ pc L (.ref (gAd g (4, 0, 0)) :: st) σ := z_callV (ci := 7) (As := []) hc hd vl_PalaceReader_9 hdd (4, 0, 0) (dm_Tape) rfl rfl (ok_Tape_toFirstToken g σ (v, σ1) hf) rfl rfl hst rfl k
theorem vl_PalaceReader_14 : SL R_PalaceReader 14 y_PalaceReader_readItem c_PalaceReader_readItem 4 (some .boolean) 3 := ⟨tb3 193 (by decide +kernel) (by decide +kernel), tb3 194 (by decide +kernel) (by decide +kernel), tb1 17 (by decide +kernel) (by decide +kernel), k_PalaceReader_readItem, by decide, by decide, by decide +kernel, by decide⟩
theorem cz_PalaceReader_14 {x : Cx} {g : Gv} {cc : ByteArray} {nL d pc : Nat} {ret : Option FieldType} {ρ : Option Value × Sg} {L : List (Nat × Value)} {st : List Value} {σ : Sg} (hc : Zc x g cc R_PalaceReader nL ret d) (hd : decode cc pc = .ok (.invokestatic 14, 3)) (hdd : 9 ≤ d) {w1 : Nat} (hv1 : w1 < 3) {v : Int32} {σ1 : Sg} (hf : f_PalaceReader_readItem w1 σ = some (v, σ1)) (hst : (st.map (fun v => v.category)).sum ≤ 8) (k : Z x g nL ρ (pc + 3) L (.int v :: st) σ1) : Z x g nL ρ pc L (.ref (gAd g (10, 0, 0)) :: .ref (gAd g (1, w1, 0)) :: .ref (gAd g (4, 0, 0)) :: st) σ := z_callS (As := [.ref (gAd g (4, 0, 0)), .ref (gAd g (1, w1, 0)), .ref (gAd g (10, 0, 0))]) hc hd vl_PalaceReader_14 hdd (ok_PalaceReader_readItem g w1 hv1 σ (v, σ1) hf) rfl rfl hst rfl k
def b_PalaceReader_tell_6 (w1 : Nat) (x3 : Int32) (σ : Sg) : Option ((Int32 × Sg) ⊕ ((Sg) ⊕ (Int32 × Sg) ⊕ (Sg) ⊕ (Sg))) :=
  (if (iI 120) < x3 then some (.inr (.inr (.inr (.inr σ)))) else b2 (f_PalaceReader_readItem w1 σ) (fun v4 σ5 => (if v4 = (iI 0) then some (.inr (.inl σ5)) else (if (σ5.1 4 0 0 1) = (iI 0) then some (.inr (.inr (.inl (x3, σ5)))) else (if (σ5.1 4 0 0 1) = (iI 3) then b2 (f_Tape_toNextToken  σ5) (fun v7 σ8 => some (.inl (x3 + (iI 1), σ8))) else some (.inr (.inr (.inr (.inl σ5)))))))))
theorem sb_PalaceReader_tell_6 {x : Cx} {g : Gv} {ρ : Option Value × Sg} (hc : Zc x g c_PalaceReader_tell R_PalaceReader 4 (some .int) 9) (w1 : Nat) (hv1 : w1 < 3) (x3 : Int32) (σ : Sg) (r : (Int32 × Sg) ⊕ ((Sg) ⊕ (Int32 × Sg) ⊕ (Sg) ⊕ (Sg))) (hf : b_PalaceReader_tell_6 w1 x3 σ = some r) (hi : ∀ a', r = .inl a' → Z x g 4 ρ 6 [(0, .ref (gAd g (4, 0, 0))), (1, .ref (gAd g (1, w1, 0))), (2, .ref (gAd g (10, 0, 0))), (3, .int a'.1)] [] a'.2) (he0 : ∀ b, r = .inr (.inl b) → Z x g 4 ρ 21 [(0, .ref (gAd g (4, 0, 0)))] [] b) (he1 : ∀ b, r = .inr (.inr (.inl b)) → Z x g 4 ρ 31 [(3, .int b.1)] [] b.2) (he2 : ∀ b, r = .inr (.inr (.inr (.inl b))) → Z x g 4 ρ 41 [(0, .ref (gAd g (4, 0, 0)))] [] b) (he3 : ∀ b, r = .inr (.inr (.inr (.inr b))) → Z x g 4 ρ 54 [(0, .ref (gAd g (4, 0, 0)))] [] b) : Z x g 4 ρ 6 [(0, .ref (gAd g (4, 0, 0))), (1, .ref (gAd g (1, w1, 0))), (2, .ref (gAd g (10, 0, 0))), (3, .int x3)] [] σ := by
  unfold b_PalaceReader_tell_6 at hf
  refine z_iload_n hc d_PalaceReader_tell_6 3 rfl ?_
  refine z_bipush (v := (iI 120)) hc d_PalaceReader_tell_7 (by decide) ?_
  refine z_icmp_gt (tgt := 54) hc d_PalaceReader_tell_9 (by decide) (fun hq => ?_) (fun hq => ?_)
  · have hf := ifp hq hf
    refine z_sub [0] (L' := [(0, .ref (gAd g (4, 0, 0)))]) rfl ?_
    exact he3 σ (Option.some.inj hf).symm
  · have hf := ifn hq hf
    refine z_aload_n hc d_PalaceReader_tell_12 0 rfl ?_
    refine z_aload_n hc d_PalaceReader_tell_13 1 rfl ?_
    refine z_aload_n hc d_PalaceReader_tell_14 2 rfl ?_
    obtain ⟨v4, σ5, h6, hf⟩ := bd2 hf
    refine cz_PalaceReader_14 hc d_PalaceReader_tell_15 (by decide) hv1 h6 (Nat.le_of_ble_eq_true rfl) ?_
    refine z_if_ne (tgt := 24) hc d_PalaceReader_tell_18 (by decide) (fun hq => ?_) (fun hq => ?_)
    · have hf := ifn hq hf
      refine z_aload_n hc d_PalaceReader_tell_24 0 rfl ?_
      refine gf_PalaceReader_20 hc d_PalaceReader_tell_25  ?_
      refine z_if_ne (tgt := 33) hc d_PalaceReader_tell_28 (by decide) (fun hq => ?_) (fun hq => ?_)
      · have hf := ifn hq hf
        refine z_aload_n hc d_PalaceReader_tell_33 0 rfl ?_
        refine gf_PalaceReader_20 hc d_PalaceReader_tell_34  ?_
        refine z_iconst (v := (iI 3)) hc d_PalaceReader_tell_37 (by decide) ?_
        refine z_icmp_eq (tgt := 44) hc d_PalaceReader_tell_38 (by decide) (fun hq => ?_) (fun hq => ?_)
        · have hf := ifp hq hf
          refine z_aload_n hc d_PalaceReader_tell_44 0 rfl ?_
          obtain ⟨v7, σ8, h9, hf⟩ := bd2 hf
          refine cz_PalaceReader_24 hc d_PalaceReader_tell_45 (by decide)  h9 (Nat.le_of_ble_eq_true rfl) ?_
          refine z_iinc (v := x3 + (iI 1)) (L' := [(3, .int (x3 + (iI 1))), (0, .ref (gAd g (4, 0, 0))), (1, .ref (gAd g (1, w1, 0))), (2, .ref (gAd g (10, 0, 0)))]) hc d_PalaceReader_tell_48 3 rfl rfl (by decide) rfl ?_
          refine z_goto (tgt := 6) hc d_PalaceReader_tell_51 (by decide) ?_
          refine z_sub [1, 2, 3, 0] (L' := [(0, .ref (gAd g (4, 0, 0))), (1, .ref (gAd g (1, w1, 0))), (2, .ref (gAd g (10, 0, 0))), (3, .int (x3 + (iI 1)))]) rfl ?_
          exact hi (x3 + (iI 1), σ8) (Option.some.inj hf).symm
        · have hf := ifn hq hf
          refine z_sub [0] (L' := [(0, .ref (gAd g (4, 0, 0)))]) rfl ?_
          exact he2 σ5 (Option.some.inj hf).symm
      · have hf := ifp hq hf
        refine z_sub [3] (L' := [(3, .int x3)]) rfl ?_
        exact he1 (x3, σ5) (Option.some.inj hf).symm
    · have hf := ifp hq hf
      refine z_sub [0] (L' := [(0, .ref (gAd g (4, 0, 0)))]) rfl ?_
      exact he0 σ5 (Option.some.inj hf).symm
def f_PalaceReader_tell (w1 : Nat) (σ : Sg) : Option (Int32 × Sg) :=
  b2 (f_Tape_toFirstToken  σ) (fun v1 σ2 => Option.bind (lp (fun a => b_PalaceReader_tell_6 w1 a.1 a.2) FU ((iI 1), σ2)) (fun z => Sum.elim (fun b16 => some ((iI (-1)) - (b16.1 4 0 0 2), b16)) (fun z => Sum.elim (fun b17 => some (b17.1, b17.2)) (fun z => Sum.elim (fun b18 => some ((iI (-1)) - (b18.1 4 0 0 2), b18)) (fun b19 => some ((iI (-1)) - (b19.1 4 0 0 2), b19)) z) z) z))
theorem ok_PalaceReader_tell (g : Gv) (w1 : Nat) (hv1 : w1 < 3) (σ : Sg) (r : Int32 × Sg) (hf : f_PalaceReader_tell w1 σ = some r) : Ok g y_PalaceReader_tell c_PalaceReader_tell 4 (some .int) 9 [.ref (gAd g (4, 0, 0)), .ref (gAd g (1, w1, 0)), .ref (gAd g (10, 0, 0))] σ (some (.int r.1), r.2) := by
  unfold f_PalaceReader_tell at hf
  refine Ok.of [(0, .ref (gAd g (4, 0, 0))), (1, .ref (gAd g (1, w1, 0))), (2, .ref (gAd g (10, 0, 0)))] (by decide) (Nat.le_of_ble_eq_true rfl) rfl ?_
  intro x hc
  have hc : Zc x g c_PalaceReader_tell R_PalaceReader 4 (some .int) 9 := hc
  obtain ⟨ρ, hρ⟩ : ∃ ρ : Option Value × Sg, ρ = (some (.int r.1), r.2) := ⟨_, rfl⟩
  rw [← hρ]
  refine z_aload_n hc d_PalaceReader_tell_0 0 rfl ?_
  obtain ⟨v1, σ2, h3, hf⟩ := bd2 hf
  refine cz_PalaceReader_9 hc d_PalaceReader_tell_1 (by decide)  h3 (Nat.le_of_ble_eq_true rfl) ?_
  refine z_iconst (v := (iI 1)) hc d_PalaceReader_tell_4 (by decide) ?_
  refine z_istore_n (L' := [(3, .int (iI 1)), (0, .ref (gAd g (4, 0, 0))), (1, .ref (gAd g (1, w1, 0))), (2, .ref (gAd g (10, 0, 0)))]) hc d_PalaceReader_tell_5 (by decide) rfl ?_
  refine z_sub [1, 2, 3, 0] (L' := [(0, .ref (gAd g (4, 0, 0))), (1, .ref (gAd g (1, w1, 0))), (2, .ref (gAd g (10, 0, 0))), (3, .int (iI 1))]) rfl ?_
  obtain ⟨q10, hl20, hf⟩ := bd hf
  refine lp_walk (α := (Int32 × Sg)) (β := ((Sg) ⊕ (Int32 × Sg) ⊕ (Sg) ⊕ (Sg))) (body := (fun a : (Int32 × Sg) => b_PalaceReader_tell_6 w1 a.1 a.2)) (In := (fun a : (Int32 × Sg) => Z x g 4 ρ 6 [(0, .ref (gAd g (4, 0, 0))), (1, .ref (gAd g (1, w1, 0))), (2, .ref (gAd g (10, 0, 0))), (3, .int a.1)] [] a.2)) (Out := (Sum.elim (fun b => Z x g 4 ρ 21 [(0, .ref (gAd g (4, 0, 0)))] [] b) (Sum.elim (fun b => Z x g 4 ρ 31 [(3, .int b.1)] [] b.2) (Sum.elim (fun b => Z x g 4 ρ 41 [(0, .ref (gAd g (4, 0, 0)))] [] b) (fun b => Z x g 4 ρ 54 [(0, .ref (gAd g (4, 0, 0)))] [] b))))) (fun a r hb hi ho => sb_PalaceReader_tell_6 hc w1 hv1 a.1 a.2 r hb hi (fun b e => ho _ e) (fun b e => ho _ e) (fun b e => ho _ e) (fun b e => ho _ e)) FU ((iI 1), σ2) _ hl20 ?_
  rcases q10 with σ11 | q10
  · try dsimp only [Sum.elim_inl, Sum.elim_inr] at hf
    try dsimp only [Sum.elim_inl, Sum.elim_inr]
    refine z_goto (tgt := 54) hc d_PalaceReader_tell_21 (by decide) ?_
    refine z_iconst (v := (iI (-1))) hc d_PalaceReader_tell_54 (by decide) ?_
    refine z_aload_n hc d_PalaceReader_tell_55 0 rfl ?_
    refine gf_PalaceReader_27 hc d_PalaceReader_tell_56  ?_
    refine z_isub hc d_PalaceReader_tell_59 ?_
    exact z_iret hc d_PalaceReader_tell_60 (rI hf hρ)
  try dsimp only [Sum.elim_inl, Sum.elim_inr] at hf
  try dsimp only [Sum.elim_inl, Sum.elim_inr]
  rcases q10 with ⟨y12, σ13⟩ | q10
  · try dsimp only [Sum.elim_inl, Sum.elim_inr] at hf
    try dsimp only [Sum.elim_inl, Sum.elim_inr]
    refine z_iload_n hc d_PalaceReader_tell_31 0 rfl ?_
    exact z_iret hc d_PalaceReader_tell_32 (rI hf hρ)
  try dsimp only [Sum.elim_inl, Sum.elim_inr] at hf
  try dsimp only [Sum.elim_inl, Sum.elim_inr]
  rcases q10 with σ14 | q10
  · try dsimp only [Sum.elim_inl, Sum.elim_inr] at hf
    try dsimp only [Sum.elim_inl, Sum.elim_inr]
    refine z_goto (tgt := 54) hc d_PalaceReader_tell_41 (by decide) ?_
    refine z_iconst (v := (iI (-1))) hc d_PalaceReader_tell_54 (by decide) ?_
    refine z_aload_n hc d_PalaceReader_tell_55 0 rfl ?_
    refine gf_PalaceReader_27 hc d_PalaceReader_tell_56  ?_
    refine z_isub hc d_PalaceReader_tell_59 ?_
    exact z_iret hc d_PalaceReader_tell_60 (rI hf hρ)
  try dsimp only [Sum.elim_inl, Sum.elim_inr] at hf
  try dsimp only [Sum.elim_inl, Sum.elim_inr]
  · obtain ⟨σ15, rfl⟩ : ∃ z, z = q10 := ⟨_, rfl⟩
    try dsimp only [Sum.elim_inl, Sum.elim_inr] at hf
    try dsimp only [Sum.elim_inl, Sum.elim_inr]
    refine z_iconst (v := (iI (-1))) hc d_PalaceReader_tell_54 (by decide) ?_
    refine z_aload_n hc d_PalaceReader_tell_55 0 rfl ?_
    refine gf_PalaceReader_27 hc d_PalaceReader_tell_56  ?_
    refine z_isub hc d_PalaceReader_tell_59 ?_
    exact z_iret hc d_PalaceReader_tell_60 (rI hf hρ)
def f_Rug_become (w0 : Nat) (c0 : Nat) (w1 : Nat) (c1 : Nat) (σ : Sg) : Option (Unit × Sg) :=
  Option.bind (kd (σ.2.2 2 w1 c1)) (fun k1 => some ((), upI (upI (upI (upI (upI (upI (upK σ 2 w0 c0 k1) 2 w0 c0 1 ((upK σ 2 w0 c0 k1).1 2 w1 c1 1)) 2 w0 c0 2 ((upI (upK σ 2 w0 c0 k1) 2 w0 c0 1 ((upK σ 2 w0 c0 k1).1 2 w1 c1 1)).1 2 w1 c1 2)) 2 w0 c0 3 ((upI (upI (upK σ 2 w0 c0 k1) 2 w0 c0 1 ((upK σ 2 w0 c0 k1).1 2 w1 c1 1)) 2 w0 c0 2 ((upI (upK σ 2 w0 c0 k1) 2 w0 c0 1 ((upK σ 2 w0 c0 k1).1 2 w1 c1 1)).1 2 w1 c1 2)).1 2 w1 c1 3)) 2 w0 c0 4 ((upI (upI (upI (upK σ 2 w0 c0 k1) 2 w0 c0 1 ((upK σ 2 w0 c0 k1).1 2 w1 c1 1)) 2 w0 c0 2 ((upI (upK σ 2 w0 c0 k1) 2 w0 c0 1 ((upK σ 2 w0 c0 k1).1 2 w1 c1 1)).1 2 w1 c1 2)) 2 w0 c0 3 ((upI (upI (upK σ 2 w0 c0 k1) 2 w0 c0 1 ((upK σ 2 w0 c0 k1).1 2 w1 c1 1)) 2 w0 c0 2 ((upI (upK σ 2 w0 c0 k1) 2 w0 c0 1 ((upK σ 2 w0 c0 k1).1 2 w1 c1 1)).1 2 w1 c1 2)).1 2 w1 c1 3)).1 2 w1 c1 4)) 2 w0 c0 5 ((upI (upI (upI (upI (upK σ 2 w0 c0 k1) 2 w0 c0 1 ((upK σ 2 w0 c0 k1).1 2 w1 c1 1)) 2 w0 c0 2 ((upI (upK σ 2 w0 c0 k1) 2 w0 c0 1 ((upK σ 2 w0 c0 k1).1 2 w1 c1 1)).1 2 w1 c1 2)) 2 w0 c0 3 ((upI (upI (upK σ 2 w0 c0 k1) 2 w0 c0 1 ((upK σ 2 w0 c0 k1).1 2 w1 c1 1)) 2 w0 c0 2 ((upI (upK σ 2 w0 c0 k1) 2 w0 c0 1 ((upK σ 2 w0 c0 k1).1 2 w1 c1 1)).1 2 w1 c1 2)).1 2 w1 c1 3)) 2 w0 c0 4 ((upI (upI (upI (upK σ 2 w0 c0 k1) 2 w0 c0 1 ((upK σ 2 w0 c0 k1).1 2 w1 c1 1)) 2 w0 c0 2 ((upI (upK σ 2 w0 c0 k1) 2 w0 c0 1 ((upK σ 2 w0 c0 k1).1 2 w1 c1 1)).1 2 w1 c1 2)) 2 w0 c0 3 ((upI (upI (upK σ 2 w0 c0 k1) 2 w0 c0 1 ((upK σ 2 w0 c0 k1).1 2 w1 c1 1)) 2 w0 c0 2 ((upI (upK σ 2 w0 c0 k1) 2 w0 c0 1 ((upK σ 2 w0 c0 k1).1 2 w1 c1 1)).1 2 w1 c1 2)).1 2 w1 c1 3)).1 2 w1 c1 4)).1 2 w1 c1 5)) 2 w0 c0 6 ((upI (upI (upI (upI (upI (upK σ 2 w0 c0 k1) 2 w0 c0 1 ((upK σ 2 w0 c0 k1).1 2 w1 c1 1)) 2 w0 c0 2 ((upI (upK σ 2 w0 c0 k1) 2 w0 c0 1 ((upK σ 2 w0 c0 k1).1 2 w1 c1 1)).1 2 w1 c1 2)) 2 w0 c0 3 ((upI (upI (upK σ 2 w0 c0 k1) 2 w0 c0 1 ((upK σ 2 w0 c0 k1).1 2 w1 c1 1)) 2 w0 c0 2 ((upI (upK σ 2 w0 c0 k1) 2 w0 c0 1 ((upK σ 2 w0 c0 k1).1 2 w1 c1 1)).1 2 w1 c1 2)).1 2 w1 c1 3)) 2 w0 c0 4 ((upI (upI (upI (upK σ 2 w0 c0 k1) 2 w0 c0 1 ((upK σ 2 w0 c0 k1).1 2 w1 c1 1)) 2 w0 c0 2 ((upI (upK σ 2 w0 c0 k1) 2 w0 c0 1 ((upK σ 2 w0 c0 k1).1 2 w1 c1 1)).1 2 w1 c1 2)) 2 w0 c0 3 ((upI (upI (upK σ 2 w0 c0 k1) 2 w0 c0 1 ((upK σ 2 w0 c0 k1).1 2 w1 c1 1)) 2 w0 c0 2 ((upI (upK σ 2 w0 c0 k1) 2 w0 c0 1 ((upK σ 2 w0 c0 k1).1 2 w1 c1 1)).1 2 w1 c1 2)).1 2 w1 c1 3)).1 2 w1 c1 4)) 2 w0 c0 5 ((upI (upI (upI (upI (upK σ 2 w0 c0 k1) 2 w0 c0 1 ((upK σ 2 w0 c0 k1).1 2 w1 c1 1)) 2 w0 c0 2 ((upI (upK σ 2 w0 c0 k1) 2 w0 c0 1 ((upK σ 2 w0 c0 k1).1 2 w1 c1 1)).1 2 w1 c1 2)) 2 w0 c0 3 ((upI (upI (upK σ 2 w0 c0 k1) 2 w0 c0 1 ((upK σ 2 w0 c0 k1).1 2 w1 c1 1)) 2 w0 c0 2 ((upI (upK σ 2 w0 c0 k1) 2 w0 c0 1 ((upK σ 2 w0 c0 k1).1 2 w1 c1 1)).1 2 w1 c1 2)).1 2 w1 c1 3)) 2 w0 c0 4 ((upI (upI (upI (upK σ 2 w0 c0 k1) 2 w0 c0 1 ((upK σ 2 w0 c0 k1).1 2 w1 c1 1)) 2 w0 c0 2 ((upI (upK σ 2 w0 c0 k1) 2 w0 c0 1 ((upK σ 2 w0 c0 k1).1 2 w1 c1 1)).1 2 w1 c1 2)) 2 w0 c0 3 ((upI (upI (upK σ 2 w0 c0 k1) 2 w0 c0 1 ((upK σ 2 w0 c0 k1).1 2 w1 c1 1)) 2 w0 c0 2 ((upI (upK σ 2 w0 c0 k1) 2 w0 c0 1 ((upK σ 2 w0 c0 k1).1 2 w1 c1 1)).1 2 w1 c1 2)).1 2 w1 c1 3)).1 2 w1 c1 4)).1 2 w1 c1 5)).1 2 w1 c1 6)))
theorem ok_Rug_become (g : Gv) (w0 : Nat) (c0 : Nat) (w1 : Nat) (c1 : Nat) (hv0 : okR w0 c0) (hv1 : okR w1 c1) (σ : Sg) (r : Unit × Sg) (hf : f_Rug_become w0 c0 w1 c1 σ = some r) : Ok g y_Rug_become c_Rug_become 2 none 0 [.ref (gAd g (2, w0, c0)), .ref (gAd g (2, w1, c1))] σ (none, r.2) := by
  unfold f_Rug_become at hf
  refine Ok.of [(0, .ref (gAd g (2, w0, c0))), (1, .ref (gAd g (2, w1, c1)))] (by decide) (Nat.le_of_ble_eq_true rfl) rfl ?_
  intro x hc
  have hc : Zc x g c_Rug_become R_Rug 2 none 0 := hc
  obtain ⟨ρ, hρ⟩ : ∃ ρ : Option Value × Sg, ρ = (none, r.2) := ⟨_, rfl⟩
  rw [← hρ]
  refine z_aload_n hc d_Rug_become_0 0 rfl ?_
  refine z_aload_n hc d_Rug_become_1 1 rfl ?_
  obtain ⟨k1, hk0, hf⟩ := bd hf
  have hk2 := kd_lt hk0
  refine gf_Rug_9 hc d_Rug_become_2 hv1 hk0 ?_
  refine pf_Rug_9 hc d_Rug_become_5 hv0 ?_
  refine z_aload_n hc d_Rug_become_8 0 rfl ?_
  refine z_aload_n hc d_Rug_become_9 1 rfl ?_
  refine gf_Rug_19 hc d_Rug_become_10 hv1 ?_
  refine pf_Rug_19 hc d_Rug_become_13 hv0 ?_
  refine z_aload_n hc d_Rug_become_16 0 rfl ?_
  refine z_aload_n hc d_Rug_become_17 1 rfl ?_
  refine gf_Rug_22 hc d_Rug_become_18 hv1 ?_
  refine pf_Rug_22 hc d_Rug_become_21 hv0 ?_
  refine z_aload_n hc d_Rug_become_24 0 rfl ?_
  refine z_aload_n hc d_Rug_become_25 1 rfl ?_
  refine gf_Rug_25 hc d_Rug_become_26 hv1 ?_
  refine pf_Rug_25 hc d_Rug_become_29 hv0 ?_
  refine z_aload_n hc d_Rug_become_32 0 rfl ?_
  refine z_aload_n hc d_Rug_become_33 1 rfl ?_
  refine gf_Rug_28 hc d_Rug_become_34 hv1 ?_
  refine pf_Rug_28 hc d_Rug_become_37 hv0 ?_
  refine z_aload_n hc d_Rug_become_40 0 rfl ?_
  refine z_aload_n hc d_Rug_become_41 1 rfl ?_
  refine gf_Rug_15 hc d_Rug_become_42 hv1 ?_
  refine pf_Rug_15 hc d_Rug_become_45 hv0 ?_
  refine z_aload_n hc d_Rug_become_48 0 rfl ?_
  refine z_aload_n hc d_Rug_become_49 1 rfl ?_
  refine gf_Rug_34 hc d_Rug_become_50 hv1 ?_
  refine pf_Rug_34 hc d_Rug_become_53 hv0 ?_
  exact z_vret hc d_Rug_become_56 (rV hf hρ)
def f_Rug_valueOf (w0 : Nat) (c0 : Nat) (x1 : Int32) (σ : Sg) : Option (Int32 × Sg) :=
  (if x1 = (iI 1) then some (σ.1 2 w0 c0 1, σ) else (if x1 = (iI 2) then some (σ.1 2 w0 c0 2, σ) else (if x1 = (iI 3) then some (σ.1 2 w0 c0 3, σ) else some (σ.1 2 w0 c0 4, σ))))
theorem ok_Rug_valueOf (g : Gv) (w0 : Nat) (c0 : Nat) (x1 : Int32) (hv0 : okR w0 c0) (σ : Sg) (r : Int32 × Sg) (hf : f_Rug_valueOf w0 c0 x1 σ = some r) : Ok g y_Rug_valueOf c_Rug_valueOf 2 (some .int) 0 [.ref (gAd g (2, w0, c0)), .int x1] σ (some (.int r.1), r.2) := by
  unfold f_Rug_valueOf at hf
  refine Ok.of [(0, .ref (gAd g (2, w0, c0))), (1, .int x1)] (by decide) (Nat.le_of_ble_eq_true rfl) rfl ?_
  intro x hc
  have hc : Zc x g c_Rug_valueOf R_Rug 2 (some .int) 0 := hc
  obtain ⟨ρ, hρ⟩ : ∃ ρ : Option Value × Sg, ρ = (some (.int r.1), r.2) := ⟨_, rfl⟩
  rw [← hρ]
  refine z_iload_n hc d_Rug_valueOf_0 1 rfl ?_
  by_cases hq0 : x1 = (iI 1)
  · have hf := ifp hq0 hf
    refine z_tab (tgt := 28) (off := 27) (iI 1) hc d_Rug_valueOf_1 hq0 (by decide) (by decide) (by decide) (by decide) ?_
    refine z_aload_n hc d_Rug_valueOf_28 0 rfl ?_
    refine gf_Rug_19 hc d_Rug_valueOf_29 hv0 ?_
    exact z_iret hc d_Rug_valueOf_32 (rI hf hρ)
  have hf := ifn hq0 hf
  by_cases hq1 : x1 = (iI 2)
  · have hf := ifp hq1 hf
    refine z_tab (tgt := 33) (off := 32) (iI 2) hc d_Rug_valueOf_1 hq1 (by decide) (by decide) (by decide) (by decide) ?_
    refine z_aload_n hc d_Rug_valueOf_33 0 rfl ?_
    refine gf_Rug_22 hc d_Rug_valueOf_34 hv0 ?_
    exact z_iret hc d_Rug_valueOf_37 (rI hf hρ)
  have hf := ifn hq1 hf
  by_cases hq2 : x1 = (iI 3)
  · have hf := ifp hq2 hf
    refine z_tab (tgt := 38) (off := 37) (iI 3) hc d_Rug_valueOf_1 hq2 (by decide) (by decide) (by decide) (by decide) ?_
    refine z_aload_n hc d_Rug_valueOf_38 0 rfl ?_
    refine gf_Rug_25 hc d_Rug_valueOf_39 hv0 ?_
    exact z_iret hc d_Rug_valueOf_42 (rI hf hρ)
  have hf := ifn hq2 hf
  refine z_tabD (tgt := 43) 3 (by decide) hc d_Rug_valueOf_1 (fun j hj => by match j, hj with | 0, _ => exact hq0 | 1, _ => exact hq1 | 2, _ => exact hq2) (by decide) ?_
  refine z_aload_n hc d_Rug_valueOf_43 0 rfl ?_
  refine gf_Rug_28 hc d_Rug_valueOf_44 hv0 ?_
  exact z_iret hc d_Rug_valueOf_47 (rI hf hρ)
def f_Rug_putValue (w0 : Nat) (c0 : Nat) (x1 : Int32) (x2 : Int32) (σ : Sg) : Option (Unit × Sg) :=
  (if x1 = (iI 1) then some ((), upI σ 2 w0 c0 1 x2) else (if x1 = (iI 2) then some ((), upI σ 2 w0 c0 2 x2) else (if x1 = (iI 3) then some ((), upI σ 2 w0 c0 3 x2) else some ((), upI σ 2 w0 c0 4 x2))))
theorem ok_Rug_putValue (g : Gv) (w0 : Nat) (c0 : Nat) (x1 : Int32) (x2 : Int32) (hv0 : okR w0 c0) (σ : Sg) (r : Unit × Sg) (hf : f_Rug_putValue w0 c0 x1 x2 σ = some r) : Ok g y_Rug_putValue c_Rug_putValue 3 none 0 [.ref (gAd g (2, w0, c0)), .int x1, .int x2] σ (none, r.2) := by
  unfold f_Rug_putValue at hf
  refine Ok.of [(0, .ref (gAd g (2, w0, c0))), (1, .int x1), (2, .int x2)] (by decide) (Nat.le_of_ble_eq_true rfl) rfl ?_
  intro x hc
  have hc : Zc x g c_Rug_putValue R_Rug 3 none 0 := hc
  obtain ⟨ρ, hρ⟩ : ∃ ρ : Option Value × Sg, ρ = (none, r.2) := ⟨_, rfl⟩
  rw [← hρ]
  refine z_iload_n hc d_Rug_putValue_0 1 rfl ?_
  by_cases hq0 : x1 = (iI 1)
  · have hf := ifp hq0 hf
    refine z_tab (tgt := 28) (off := 27) (iI 1) hc d_Rug_putValue_1 hq0 (by decide) (by decide) (by decide) (by decide) ?_
    refine z_aload_n hc d_Rug_putValue_28 0 rfl ?_
    refine z_iload_n hc d_Rug_putValue_29 2 rfl ?_
    refine pf_Rug_19 hc d_Rug_putValue_30 hv0 ?_
    refine z_goto (tgt := 57) hc d_Rug_putValue_33 (by decide) ?_
    exact z_vret hc d_Rug_putValue_57 (rV hf hρ)
  have hf := ifn hq0 hf
  by_cases hq1 : x1 = (iI 2)
  · have hf := ifp hq1 hf
    refine z_tab (tgt := 36) (off := 35) (iI 2) hc d_Rug_putValue_1 hq1 (by decide) (by decide) (by decide) (by decide) ?_
    refine z_aload_n hc d_Rug_putValue_36 0 rfl ?_
    refine z_iload_n hc d_Rug_putValue_37 2 rfl ?_
    refine pf_Rug_22 hc d_Rug_putValue_38 hv0 ?_
    refine z_goto (tgt := 57) hc d_Rug_putValue_41 (by decide) ?_
    exact z_vret hc d_Rug_putValue_57 (rV hf hρ)
  have hf := ifn hq1 hf
  by_cases hq2 : x1 = (iI 3)
  · have hf := ifp hq2 hf
    refine z_tab (tgt := 44) (off := 43) (iI 3) hc d_Rug_putValue_1 hq2 (by decide) (by decide) (by decide) (by decide) ?_
    refine z_aload_n hc d_Rug_putValue_44 0 rfl ?_
    refine z_iload_n hc d_Rug_putValue_45 2 rfl ?_
    refine pf_Rug_25 hc d_Rug_putValue_46 hv0 ?_
    refine z_goto (tgt := 57) hc d_Rug_putValue_49 (by decide) ?_
    exact z_vret hc d_Rug_putValue_57 (rV hf hρ)
  have hf := ifn hq2 hf
  refine z_tabD (tgt := 52) 3 (by decide) hc d_Rug_putValue_1 (fun j hj => by match j, hj with | 0, _ => exact hq0 | 1, _ => exact hq1 | 2, _ => exact hq2) (by decide) ?_
  refine z_aload_n hc d_Rug_putValue_52 0 rfl ?_
  refine z_iload_n hc d_Rug_putValue_53 2 rfl ?_
  refine pf_Rug_28 hc d_Rug_putValue_54 hv0 ?_
  exact z_vret hc d_Rug_putValue_57 (rV hf hρ)
def f_Runner_reaches (w0 : Nat) (w1 : Nat) (c1 : Nat) (σ : Sg) : Option (Int32 × Sg) :=
  some ((iI 2) * (σ.1 2 w1 c1 2), σ)
theorem ok_Runner_reaches (g : Gv) (w0 : Nat) (w1 : Nat) (c1 : Nat) (hv0 : w0 < 6) (hv1 : okR w1 c1) (σ : Sg) (r : Int32 × Sg) (hf : f_Runner_reaches w0 w1 c1 σ = some r) : Ok g y_Runner_reaches c_Runner_reaches 2 (some .int) 0 [.ref (gAd g (5, w0, 0)), .ref (gAd g (2, w1, c1))] σ (some (.int r.1), r.2) := by
  unfold f_Runner_reaches at hf
  refine Ok.of [(0, .ref (gAd g (5, w0, 0))), (1, .ref (gAd g (2, w1, c1)))] (by decide) (Nat.le_of_ble_eq_true rfl) rfl ?_
  intro x hc
  have hc : Zc x g c_Runner_reaches R_Runner 2 (some .int) 0 := hc
  obtain ⟨ρ, hρ⟩ : ∃ ρ : Option Value × Sg, ρ = (some (.int r.1), r.2) := ⟨_, rfl⟩
  rw [← hρ]
  refine z_iconst (v := (iI 2)) hc d_Runner_reaches_0 (by decide) ?_
  refine z_aload_n hc d_Runner_reaches_1 1 rfl ?_
  refine gf_Runner_7 hc d_Runner_reaches_2 hv1 ?_
  refine z_imul hc d_Runner_reaches_5 ?_
  exact z_iret hc d_Runner_reaches_6 (rI hf hρ)
theorem pl_Stair_7 : PL R_Stair 7 y_Runner_reaches c_Runner_reaches 2 (some .int) 1 := ⟨tb2 90 (by decide +kernel) (by decide +kernel), tb6 47 (by decide +kernel) (by decide +kernel), tb1 93 (by decide +kernel) (by decide +kernel), tb2 76 (by decide +kernel) (by decide +kernel), tb1 3 (by decide +kernel) (by decide +kernel), k_Runner_reaches, by decide, by decide +kernel, by decide⟩
theorem cz_Stair_7 {x : Cx} {g : Gv} {cc : ByteArray} {nL d pc : Nat} {ret : Option FieldType} {ρ : Option Value × Sg} {L : List (Nat × Value)} {st : List Value} {σ : Sg} (hc : Zc x g cc R_Stair nL ret d) (hd : decode cc pc = .ok (.invokespecial 7, 3)) (hdd : 1 ≤ d) {w0 : Nat} {w1 : Nat} {c1 : Nat} (hv0 : w0 < 6) (hv1 : okR w1 c1) {v : Int32} {σ1 : Sg} (hf : f_Runner_reaches w0 w1 c1 σ = some (v, σ1)) (hst : (st.map (fun v => v.category)).sum ≤ 8) (k : Z x g nL ρ (pc + 3) L (.int v :: st) σ1) : Z x g nL ρ pc L (.ref (gAd g (2, w1, c1)) :: .ref (gAd g (5, w0, 0)) :: st) σ := by
  obtain ⟨C9, T9, N9, hC9⟩ := kcl w0
  exact z_callP (ci := kCi w0) (As := [.ref (gAd g (2, w1, c1))]) hc hd pl_Stair_7 hdd (5, w0, 0) (dm_Kind hv0) rfl hC9 (ok_Runner_reaches g w0 w1 c1 hv0 hv1 σ (v, σ1) hf) rfl rfl hst rfl k
def f_Stair_reaches (w0 : Nat) (w1 : Nat) (c1 : Nat) (σ : Sg) : Option (Int32 × Sg) :=
  b2 (f_Runner_reaches w0 w1 c1 σ) (fun v1 σ2 => some (if (iI 1) < (v1 - (iI 3)) then (v1 - (iI 3)) else (iI 1), σ2))
theorem ok_Stair_reaches (g : Gv) (w0 : Nat) (w1 : Nat) (c1 : Nat) (hv0 : w0 < 6) (hv1 : okR w1 c1) (σ : Sg) (r : Int32 × Sg) (hf : f_Stair_reaches w0 w1 c1 σ = some r) : Ok g y_Stair_reaches c_Stair_reaches 2 (some .int) 1 [.ref (gAd g (5, w0, 0)), .ref (gAd g (2, w1, c1))] σ (some (.int r.1), r.2) := by
  unfold f_Stair_reaches at hf
  refine Ok.of [(0, .ref (gAd g (5, w0, 0))), (1, .ref (gAd g (2, w1, c1)))] (by decide) (Nat.le_of_ble_eq_true rfl) rfl ?_
  intro x hc
  have hc : Zc x g c_Stair_reaches R_Stair 2 (some .int) 1 := hc
  obtain ⟨ρ, hρ⟩ : ∃ ρ : Option Value × Sg, ρ = (some (.int r.1), r.2) := ⟨_, rfl⟩
  rw [← hρ]
  refine z_iconst (v := (iI 1)) hc d_Stair_reaches_0 (by decide) ?_
  refine z_aload_n hc d_Stair_reaches_1 0 rfl ?_
  refine z_aload_n hc d_Stair_reaches_2 1 rfl ?_
  obtain ⟨v1, σ2, h3, hf⟩ := bd2 hf
  refine cz_Stair_7 hc d_Stair_reaches_3 (by decide) hv0 hv1 h3 (Nat.le_of_ble_eq_true rfl) ?_
  refine z_iconst (v := (iI 3)) hc d_Stair_reaches_6 (by decide) ?_
  refine z_isub hc d_Stair_reaches_7 ?_
  refine z_max hc d_Stair_reaches_8 ml_Stair_11 (by decide) (Nat.le_of_ble_eq_true rfl) ?_
  exact z_iret hc d_Stair_reaches_11 (rI hf hρ)
theorem pi_Shag_7 : PI R_Shag 7 ⟨"CarpetRealms$Velvet", "reaches", "(LCarpetRealms$Rug;)I"⟩ y_Kind_reaches c_Kind_reaches 2 (some .int) 1 := ⟨tb2 81 (by decide +kernel) (by decide +kernel), tb2 82 (by decide +kernel) (by decide +kernel), tb1 104 (by decide +kernel) (by decide +kernel), tb1 71 (by decide +kernel) (by decide +kernel), tb2 69 (by decide +kernel) (by decide +kernel), tb1 2 (by decide +kernel) (by decide +kernel), k_Kind_reaches, by decide, rfl, rfl, by decide +kernel, by decide⟩
theorem cz_Shag_7 {x : Cx} {g : Gv} {cc : ByteArray} {nL d pc : Nat} {ret : Option FieldType} {ρ : Option Value × Sg} {L : List (Nat × Value)} {st : List Value} {σ : Sg} (hc : Zc x g cc R_Shag nL ret d) (hd : decode cc pc = .ok (.invokespecial 7, 3)) (hdd : 1 ≤ d) {w0 : Nat} {w1 : Nat} {c1 : Nat} (hv0 : w0 < 6) (hv1 : okR w1 c1) {v : Int32} {σ1 : Sg} (hf : f_Kind_reaches w0 w1 c1 σ = some (v, σ1)) (hst : (st.map (fun v => v.category)).sum ≤ 8) (k : Z x g nL ρ (pc + 3) L (.int v :: st) σ1) : Z x g nL ρ pc L (.ref (gAd g (2, w1, c1)) :: .ref (gAd g (5, w0, 0)) :: st) σ := by
  obtain ⟨C9, T9, N9, hC9⟩ := kcl w0
  exact z_callPI (ci := kCi w0) (As := [.ref (gAd g (2, w1, c1))]) hc hd pi_Shag_7 hdd (5, w0, 0) (dm_Kind hv0) rfl hC9 (ok_Kind_reaches g w0 w1 c1 hv0 hv1 σ (v, σ1) hf) rfl rfl hst rfl k
def f_Shag_reaches (w0 : Nat) (w1 : Nat) (c1 : Nat) (σ : Sg) : Option (Int32 × Sg) :=
  b2 (f_Kind_reaches w0 w1 c1 σ) (fun v1 σ2 => (if (iI 20) ≤ (σ2.1 2 w1 c1 3) then some (v1, σ2) else some (if (iI 1) < (v1 / (iI 2)) then (v1 / (iI 2)) else (iI 1), σ2)))
theorem ok_Shag_reaches (g : Gv) (w0 : Nat) (w1 : Nat) (c1 : Nat) (hv0 : w0 < 6) (hv1 : okR w1 c1) (σ : Sg) (r : Int32 × Sg) (hf : f_Shag_reaches w0 w1 c1 σ = some r) : Ok g y_Shag_reaches c_Shag_reaches 3 (some .int) 1 [.ref (gAd g (5, w0, 0)), .ref (gAd g (2, w1, c1))] σ (some (.int r.1), r.2) := by
  unfold f_Shag_reaches at hf
  refine Ok.of [(0, .ref (gAd g (5, w0, 0))), (1, .ref (gAd g (2, w1, c1)))] (by decide) (Nat.le_of_ble_eq_true rfl) rfl ?_
  intro x hc
  have hc : Zc x g c_Shag_reaches R_Shag 3 (some .int) 1 := hc
  obtain ⟨ρ, hρ⟩ : ∃ ρ : Option Value × Sg, ρ = (some (.int r.1), r.2) := ⟨_, rfl⟩
  rw [← hρ]
  refine z_aload_n hc d_Shag_reaches_0 0 rfl ?_
  refine z_aload_n hc d_Shag_reaches_1 1 rfl ?_
  obtain ⟨v1, σ2, h3, hf⟩ := bd2 hf
  refine cz_Shag_7 hc d_Shag_reaches_2 (by decide) hv0 hv1 h3 (Nat.le_of_ble_eq_true rfl) ?_
  refine z_istore_n (L' := [(2, .int v1), (0, .ref (gAd g (5, w0, 0))), (1, .ref (gAd g (2, w1, c1)))]) hc d_Shag_reaches_5 (by decide) rfl ?_
  refine z_aload_n hc d_Shag_reaches_6 2 rfl ?_
  refine gf_Shag_11 hc d_Shag_reaches_7 hv1 ?_
  refine z_bipush (v := (iI 20)) hc d_Shag_reaches_10 (by decide) ?_
  refine z_icmp_ge (tgt := 25) hc d_Shag_reaches_12 (by decide) (fun hq => ?_) (fun hq => ?_)
  · have hf := ifp hq hf
    refine z_iload_n hc d_Shag_reaches_25 0 rfl ?_
    exact z_iret hc d_Shag_reaches_26 (rI hf hρ)
  · have hf := ifn hq hf
    refine z_iconst (v := (iI 1)) hc d_Shag_reaches_15 (by decide) ?_
    refine z_iload_n hc d_Shag_reaches_16 0 rfl ?_
    refine z_iconst (v := (iI 2)) hc d_Shag_reaches_17 (by decide) ?_
    refine z_idiv hc d_Shag_reaches_18 (by decide) ?_
    refine z_max hc d_Shag_reaches_19 ml_Shag_19 (by decide) (Nat.le_of_ble_eq_true rfl) ?_
    refine z_goto (tgt := 26) hc d_Shag_reaches_22 (by decide) ?_
    exact z_iret hc d_Shag_reaches_26 (rI hf hρ)
theorem vl_Rug_37 : VL R_Rug 37 y_Rug_isOut c_Rug_isOut 1 (some .boolean) 0 := ⟨tb2 60 (by decide +kernel) (by decide +kernel), tb2 61 (by decide +kernel) (by decide +kernel), tb2 62 (by decide +kernel) (by decide +kernel), tb1 9 (by decide +kernel) (by decide +kernel), k_Rug_isOut, by decide, by decide, by decide +kernel, by decide⟩
theorem cz_Rug_37 {x : Cx} {g : Gv} {cc : ByteArray} {nL d pc : Nat} {ret : Option FieldType} {ρ : Option Value × Sg} {L : List (Nat × Value)} {st : List Value} {σ : Sg} (hc : Zc x g cc R_Rug nL ret d) (hd : decode cc pc = .ok (.invokevirtual 37, 3)) (hdd : 1 ≤ d) {w0 : Nat} {c0 : Nat} (hv0 : okR w0 c0) {v : Int32} {σ1 : Sg} (hf : f_Rug_isOut w0 c0 σ = some (v, σ1)) (hst : (st.map (fun v => v.category)).sum ≤ 8) (k : Z x g nL ρ (pc + 3) L (.int v :: st) σ1) : Z x g nL ρ pc L (.ref (gAd g (2, w0, c0)) :: st) σ := z_callV (ci := 2) (As := []) hc hd vl_Rug_37 hdd (2, w0, c0) (dm_Rug hv0) rfl rfl (ok_Rug_isOut g w0 c0 hv0 σ (v, σ1) hf) rfl rfl hst rfl k
def v_reaches (w0 : Nat) (w1 : Nat) (c1 : Nat) (σ : Sg) : Option (Int32 × Sg) := if w0 = 0 then f_Kind_reaches w0 w1 c1 σ else if w0 = 1 then f_Runner_reaches w0 w1 c1 σ else if w0 = 2 then f_Kind_reaches w0 w1 c1 σ else if w0 = 3 then f_Mat_reaches w0 w1 c1 σ else if w0 = 4 then f_Stair_reaches w0 w1 c1 σ else f_Shag_reaches w0 w1 c1 σ
theorem ul_Rug_41_0 : UL R_Rug 41 R_Kind y_Kind_reaches y_Kind_reaches c_Kind_reaches 2 (some .int) 1 := ⟨tb2 68 (by decide +kernel) (by decide +kernel), tb2 71 (by decide +kernel) (by decide +kernel), tb2 69 (by decide +kernel) (by decide +kernel), tb2 70 (by decide +kernel) (by decide +kernel), tb2 69 (by decide +kernel) (by decide +kernel), tb1 2 (by decide +kernel) (by decide +kernel), k_Kind_reaches, ⟨_, _, _, k_Kind_reaches⟩, by decide, by decide, by decide +kernel, by decide⟩
theorem ul_Rug_41_1 : UL R_Rug 41 R_Runner y_Kind_reaches y_Runner_reaches c_Runner_reaches 2 (some .int) 1 := ⟨tb2 68 (by decide +kernel) (by decide +kernel), tb2 71 (by decide +kernel) (by decide +kernel), tb2 69 (by decide +kernel) (by decide +kernel), tb2 75 (by decide +kernel) (by decide +kernel), tb2 76 (by decide +kernel) (by decide +kernel), tb1 3 (by decide +kernel) (by decide +kernel), k_Runner_reaches, ⟨_, _, _, k_Kind_reaches⟩, by decide, by decide, by decide +kernel, by decide⟩
theorem ul_Rug_41_2 : UL R_Rug 41 R_Velvet y_Kind_reaches y_Kind_reaches c_Kind_reaches 2 (some .int) 1 := ⟨tb2 68 (by decide +kernel) (by decide +kernel), tb2 71 (by decide +kernel) (by decide +kernel), tb2 69 (by decide +kernel) (by decide +kernel), tb2 92 (by decide +kernel) (by decide +kernel), tb2 69 (by decide +kernel) (by decide +kernel), tb1 2 (by decide +kernel) (by decide +kernel), k_Kind_reaches, ⟨_, _, _, k_Kind_reaches⟩, by decide, by decide, by decide +kernel, by decide⟩
theorem ul_Rug_41_3 : UL R_Rug 41 R_Mat y_Kind_reaches y_Mat_reaches c_Mat_reaches 2 (some .int) 1 := ⟨tb2 68 (by decide +kernel) (by decide +kernel), tb2 71 (by decide +kernel) (by decide +kernel), tb2 69 (by decide +kernel) (by decide +kernel), tb2 72 (by decide +kernel) (by decide +kernel), tb2 73 (by decide +kernel) (by decide +kernel), tb1 5 (by decide +kernel) (by decide +kernel), k_Mat_reaches, ⟨_, _, _, k_Kind_reaches⟩, by decide, by decide, by decide +kernel, by decide⟩
theorem ul_Rug_41_4 : UL R_Rug 41 R_Stair y_Kind_reaches y_Stair_reaches c_Stair_reaches 2 (some .int) 1 := ⟨tb2 68 (by decide +kernel) (by decide +kernel), tb2 71 (by decide +kernel) (by decide +kernel), tb2 69 (by decide +kernel) (by decide +kernel), tb2 87 (by decide +kernel) (by decide +kernel), tb2 88 (by decide +kernel) (by decide +kernel), tb1 6 (by decide +kernel) (by decide +kernel), k_Stair_reaches, ⟨_, _, _, k_Kind_reaches⟩, by decide, by decide, by decide +kernel, by decide⟩
theorem ul_Rug_41_5 : UL R_Rug 41 R_Shag y_Kind_reaches y_Shag_reaches c_Shag_reaches 3 (some .int) 1 := ⟨tb2 68 (by decide +kernel) (by decide +kernel), tb2 71 (by decide +kernel) (by decide +kernel), tb2 69 (by decide +kernel) (by decide +kernel), tb2 78 (by decide +kernel) (by decide +kernel), tb2 79 (by decide +kernel) (by decide +kernel), tb1 7 (by decide +kernel) (by decide +kernel), k_Shag_reaches, ⟨_, _, _, k_Kind_reaches⟩, by decide, by decide, by decide +kernel, by decide⟩
theorem cz_Rug_41 {x : Cx} {g : Gv} {cc : ByteArray} {nL d pc : Nat} {ret : Option FieldType} {ρ : Option Value × Sg} {L : List (Nat × Value)} {st : List Value} {σ : Sg} (hc : Zc x g cc R_Rug nL ret d) (hd : decode cc pc = .ok (.invokevirtual 41, 3)) (hdd : 2 ≤ d) {w0 : Nat} {w1 : Nat} {c1 : Nat} (hv0 : w0 < 6) (hv1 : okR w1 c1) {v : Int32} {σ1 : Sg} (hf : v_reaches w0 w1 c1 σ = some (v, σ1)) (hst : (st.map (fun v => v.category)).sum ≤ 8) (k : Z x g nL ρ (pc + 3) L (.int v :: st) σ1) : Z x g nL ρ pc L (.ref (gAd g (2, w1, c1)) :: .ref (gAd g (5, w0, 0)) :: st) σ := by
  match w0, hv0 with
  | 0, _ => exact z_callU (ci := 0) (As := [.ref (gAd g (2, w1, c1))]) hc hd ul_Rug_41_0 (Nat.le_trans (by decide) hdd) (5, 0, 0) (dm_Kind (by decide)) rfl rfl (ok_Kind_reaches g 0 w1 c1 (by decide) hv1 σ (v, σ1) hf) rfl rfl hst rfl k
  | 1, _ => exact z_callU (ci := 3) (As := [.ref (gAd g (2, w1, c1))]) hc hd ul_Rug_41_1 (Nat.le_trans (by decide) hdd) (5, 1, 0) (dm_Kind (by decide)) rfl rfl (ok_Runner_reaches g 1 w1 c1 (by decide) hv1 σ (v, σ1) hf) rfl rfl hst rfl k
  | 2, _ => exact z_callU (ci := 8) (As := [.ref (gAd g (2, w1, c1))]) hc hd ul_Rug_41_2 (Nat.le_trans (by decide) hdd) (5, 2, 0) (dm_Kind (by decide)) rfl rfl (ok_Kind_reaches g 2 w1 c1 (by decide) hv1 σ (v, σ1) hf) rfl rfl hst rfl k
  | 3, _ => exact z_callU (ci := 1) (As := [.ref (gAd g (2, w1, c1))]) hc hd ul_Rug_41_3 (Nat.le_trans (by decide) hdd) (5, 3, 0) (dm_Kind (by decide)) rfl rfl (ok_Mat_reaches g 3 w1 c1 (by decide) hv1 σ (v, σ1) hf) rfl rfl hst rfl k
  | 4, _ => exact z_callU (ci := 6) (As := [.ref (gAd g (2, w1, c1))]) hc hd ul_Rug_41_4 (Nat.le_trans (by decide) hdd) (5, 4, 0) (dm_Kind (by decide)) rfl rfl (ok_Stair_reaches g 4 w1 c1 (by decide) hv1 σ (v, σ1) hf) rfl rfl hst rfl k
  | 5, _ => exact z_callU (ci := 4) (As := [.ref (gAd g (2, w1, c1))]) hc hd ul_Rug_41_5 (Nat.le_trans (by decide) hdd) (5, 5, 0) (dm_Kind (by decide)) rfl rfl (ok_Shag_reaches g 5 w1 c1 (by decide) hv1 σ (v, σ1) hf) rfl rfl hst rfl k
def f_Rug_yardsCovered (w0 : Nat) (c0 : Nat) (σ : Sg) : Option (Int32 × Sg) :=
  b2 (f_Rug_isOut w0 c0 σ) (fun v1 σ2 => (if v1 = (iI 0) then some ((iI 0), σ2) else Option.bind (kd (σ2.2.2 2 w0 c0)) (fun k4 => b2 (v_reaches k4 w0 c0 σ2) (fun v6 σ7 => some (if ((iI 40) - (σ7.1 2 w0 c0 5)) < v6 then ((iI 40) - (σ7.1 2 w0 c0 5)) else v6, σ7)))))
theorem ok_Rug_yardsCovered (g : Gv) (w0 : Nat) (c0 : Nat) (hv0 : okR w0 c0) (σ : Sg) (r : Int32 × Sg) (hf : f_Rug_yardsCovered w0 c0 σ = some r) : Ok g y_Rug_yardsCovered c_Rug_yardsCovered 1 (some .int) 2 [.ref (gAd g (2, w0, c0))] σ (some (.int r.1), r.2) := by
  unfold f_Rug_yardsCovered at hf
  refine Ok.of [(0, .ref (gAd g (2, w0, c0)))] (by decide) (Nat.le_of_ble_eq_true rfl) rfl ?_
  intro x hc
  have hc : Zc x g c_Rug_yardsCovered R_Rug 1 (some .int) 2 := hc
  obtain ⟨ρ, hρ⟩ : ∃ ρ : Option Value × Sg, ρ = (some (.int r.1), r.2) := ⟨_, rfl⟩
  rw [← hρ]
  refine z_aload_n hc d_Rug_yardsCovered_0 0 rfl ?_
  obtain ⟨v1, σ2, h3, hf⟩ := bd2 hf
  refine cz_Rug_37 hc d_Rug_yardsCovered_1 (by decide) hv0 h3 (Nat.le_of_ble_eq_true rfl) ?_
  refine z_if_eq (tgt := 28) hc d_Rug_yardsCovered_4 (by decide) (fun hq => ?_) (fun hq => ?_)
  · have hf := ifp hq hf
    refine z_iconst (v := (iI 0)) hc d_Rug_yardsCovered_28 (by decide) ?_
    exact z_iret hc d_Rug_yardsCovered_29 (rI hf hρ)
  · have hf := ifn hq hf
    refine z_aload_n hc d_Rug_yardsCovered_7 0 rfl ?_
    obtain ⟨k4, hk0, hf⟩ := bd hf
    have hk5 := kd_lt hk0
    refine gf_Rug_9 hc d_Rug_yardsCovered_8 hv0 hk0 ?_
    refine z_aload_n hc d_Rug_yardsCovered_11 0 rfl ?_
    obtain ⟨v6, σ7, h8, hf⟩ := bd2 hf
    refine cz_Rug_41 hc d_Rug_yardsCovered_12 (by decide) hk5 hv0 h8 (Nat.le_of_ble_eq_true rfl) ?_
    refine z_bipush (v := (iI 40)) hc d_Rug_yardsCovered_15 (by decide) ?_
    refine z_aload_n hc d_Rug_yardsCovered_17 0 rfl ?_
    refine gf_Rug_15 hc d_Rug_yardsCovered_18 hv0 ?_
    refine z_isub hc d_Rug_yardsCovered_21 ?_
    refine z_min hc d_Rug_yardsCovered_22 ml_Rug_47 (by decide) (Nat.le_of_ble_eq_true rfl) ?_
    refine z_goto (tgt := 29) hc d_Rug_yardsCovered_25 (by decide) ?_
    exact z_iret hc d_Rug_yardsCovered_29 (rI hf hρ)
theorem vl_Rug_53 : VL R_Rug 53 y_Rug_yardsCovered c_Rug_yardsCovered 1 (some .int) 0 := ⟨tb2 64 (by decide +kernel) (by decide +kernel), tb2 65 (by decide +kernel) (by decide +kernel), tb2 66 (by decide +kernel) (by decide +kernel), tb1 9 (by decide +kernel) (by decide +kernel), k_Rug_yardsCovered, by decide, by decide, by decide +kernel, by decide⟩
theorem cz_Rug_53 {x : Cx} {g : Gv} {cc : ByteArray} {nL d pc : Nat} {ret : Option FieldType} {ρ : Option Value × Sg} {L : List (Nat × Value)} {st : List Value} {σ : Sg} (hc : Zc x g cc R_Rug nL ret d) (hd : decode cc pc = .ok (.invokevirtual 53, 3)) (hdd : 3 ≤ d) {w0 : Nat} {c0 : Nat} (hv0 : okR w0 c0) {v : Int32} {σ1 : Sg} (hf : f_Rug_yardsCovered w0 c0 σ = some (v, σ1)) (hst : (st.map (fun v => v.category)).sum ≤ 8) (k : Z x g nL ρ (pc + 3) L (.int v :: st) σ1) : Z x g nL ρ pc L (.ref (gAd g (2, w0, c0)) :: st) σ := z_callV (ci := 2) (As := []) hc hd vl_Rug_53 hdd (2, w0, c0) (dm_Rug hv0) rfl rfl (ok_Rug_yardsCovered g w0 c0 hv0 σ (v, σ1) hf) rfl rfl hst rfl k
def f_Rug_covers (w0 : Nat) (c0 : Nat) (x1 : Int32) (σ : Sg) : Option (Int32 × Sg) :=
  b2 (f_Rug_isOut w0 c0 σ) (fun v1 σ2 => (if v1 = (iI 0) then some ((iI 0), σ2) else (if x1 < (σ2.1 2 w0 c0 5) then some ((iI 0), σ2) else b2 (f_Rug_yardsCovered w0 c0 σ2) (fun v4 σ5 => (if ((σ2.1 2 w0 c0 5) + v4) ≤ x1 then some ((iI 0), σ5) else some ((iI 1), σ5))))))
theorem ok_Rug_covers (g : Gv) (w0 : Nat) (c0 : Nat) (x1 : Int32) (hv0 : okR w0 c0) (σ : Sg) (r : Int32 × Sg) (hf : f_Rug_covers w0 c0 x1 σ = some r) : Ok g y_Rug_covers c_Rug_covers 2 (some .boolean) 3 [.ref (gAd g (2, w0, c0)), .int x1] σ (some (.int r.1), r.2) := by
  unfold f_Rug_covers at hf
  refine Ok.of [(0, .ref (gAd g (2, w0, c0))), (1, .int x1)] (by decide) (Nat.le_of_ble_eq_true rfl) rfl ?_
  intro x hc
  have hc : Zc x g c_Rug_covers R_Rug 2 (some .boolean) 3 := hc
  obtain ⟨ρ, hρ⟩ : ∃ ρ : Option Value × Sg, ρ = (some (.int r.1), r.2) := ⟨_, rfl⟩
  rw [← hρ]
  refine z_aload_n hc d_Rug_covers_0 0 rfl ?_
  obtain ⟨v1, σ2, h3, hf⟩ := bd2 hf
  refine cz_Rug_37 hc d_Rug_covers_1 (by decide) hv0 h3 (Nat.le_of_ble_eq_true rfl) ?_
  refine z_if_eq (tgt := 32) hc d_Rug_covers_4 (by decide) (fun hq => ?_) (fun hq => ?_)
  · have hf := ifp hq hf
    refine z_iconst (v := (iI 0)) hc d_Rug_covers_32 (by decide) ?_
    exact z_zret hc d_Rug_covers_33 (by decide) (rI hf hρ)
  · have hf := ifn hq hf
    refine z_iload_n hc d_Rug_covers_7 1 rfl ?_
    refine z_aload_n hc d_Rug_covers_8 0 rfl ?_
    refine gf_Rug_15 hc d_Rug_covers_9 hv0 ?_
    refine z_icmp_lt (tgt := 32) hc d_Rug_covers_12 (by decide) (fun hq => ?_) (fun hq => ?_)
    · have hf := ifp hq hf
      refine z_iconst (v := (iI 0)) hc d_Rug_covers_32 (by decide) ?_
      exact z_zret hc d_Rug_covers_33 (by decide) (rI hf hρ)
    · have hf := ifn hq hf
      refine z_iload_n hc d_Rug_covers_15 1 rfl ?_
      refine z_aload_n hc d_Rug_covers_16 0 rfl ?_
      refine gf_Rug_15 hc d_Rug_covers_17 hv0 ?_
      refine z_aload_n hc d_Rug_covers_20 0 rfl ?_
      obtain ⟨v4, σ5, h6, hf⟩ := bd2 hf
      refine cz_Rug_53 hc d_Rug_covers_21 (by decide) hv0 h6 (Nat.le_of_ble_eq_true rfl) ?_
      refine z_iadd hc d_Rug_covers_24 ?_
      refine z_icmp_ge (tgt := 32) hc d_Rug_covers_25 (by decide) (fun hq => ?_) (fun hq => ?_)
      · have hf := ifp hq hf
        refine z_iconst (v := (iI 0)) hc d_Rug_covers_32 (by decide) ?_
        exact z_zret hc d_Rug_covers_33 (by decide) (rI hf hρ)
      · have hf := ifn hq hf
        refine z_iconst (v := (iI 1)) hc d_Rug_covers_28 (by decide) ?_
        refine z_goto (tgt := 33) hc d_Rug_covers_29 (by decide) ?_
        exact z_zret hc d_Rug_covers_33 (by decide) (rI hf hρ)
def f_Rug_span (w0 : Nat) (c0 : Nat) (σ : Sg) : Option (Int64 × Sg) :=
  b2 (f_Rug_isOut w0 c0 σ) (fun v1 σ2 => (if v1 = (iI 0) then some ((lI 0), σ2) else b2 (f_Rug_yardsCovered w0 c0 σ2) (fun v4 σ5 => some (((((lI 1) : Int64) <<< ((v4 : Int32).toInt64 &&& 63)) - (lI 1) : Int64) <<< ((σ5.1 2 w0 c0 5 : Int32).toInt64 &&& 63), σ5))))
theorem ok_Rug_span (g : Gv) (w0 : Nat) (c0 : Nat) (hv0 : okR w0 c0) (σ : Sg) (r : Int64 × Sg) (hf : f_Rug_span w0 c0 σ = some r) : Ok g y_Rug_span c_Rug_span 1 (some .long) 3 [.ref (gAd g (2, w0, c0))] σ (some (.long r.1), r.2) := by
  unfold f_Rug_span at hf
  refine Ok.of [(0, .ref (gAd g (2, w0, c0)))] (by decide) (Nat.le_of_ble_eq_true rfl) rfl ?_
  intro x hc
  have hc : Zc x g c_Rug_span R_Rug 1 (some .long) 3 := hc
  obtain ⟨ρ, hρ⟩ : ∃ ρ : Option Value × Sg, ρ = (some (.long r.1), r.2) := ⟨_, rfl⟩
  rw [← hρ]
  refine z_aload_n hc d_Rug_span_0 0 rfl ?_
  obtain ⟨v1, σ2, h3, hf⟩ := bd2 hf
  refine cz_Rug_37 hc d_Rug_span_1 (by decide) hv0 h3 (Nat.le_of_ble_eq_true rfl) ?_
  refine z_if_eq (tgt := 23) hc d_Rug_span_4 (by decide) (fun hq => ?_) (fun hq => ?_)
  · have hf := ifp hq hf
    refine z_lconst (v := (lI 0)) hc d_Rug_span_23 (by decide) ?_
    exact z_lret hc d_Rug_span_24 (rL hf hρ)
  · have hf := ifn hq hf
    refine z_lconst (v := (lI 1)) hc d_Rug_span_7 (by decide) ?_
    refine z_aload_n hc d_Rug_span_8 0 rfl ?_
    obtain ⟨v4, σ5, h6, hf⟩ := bd2 hf
    refine cz_Rug_53 hc d_Rug_span_9 (by decide) hv0 h6 (Nat.le_of_ble_eq_true rfl) ?_
    refine z_lshl hc d_Rug_span_12 ?_
    refine z_lconst (v := (lI 1)) hc d_Rug_span_13 (by decide) ?_
    refine z_lsub hc d_Rug_span_14 ?_
    refine z_aload_n hc d_Rug_span_15 0 rfl ?_
    refine gf_Rug_15 hc d_Rug_span_16 hv0 ?_
    refine z_lshl hc d_Rug_span_19 ?_
    refine z_goto (tgt := 24) hc d_Rug_span_20 (by decide) ?_
    exact z_lret hc d_Rug_span_24 (rL hf hρ)
theorem pl_Runner_13 : PL R_Runner 13 y_Kind_wears c_Kind_wears 3 (some .int) 2 := ⟨tb2 201 (by decide +kernel) (by decide +kernel), tb2 194 (by decide +kernel) (by decide +kernel), tb1 60 (by decide +kernel) (by decide +kernel), tb2 192 (by decide +kernel) (by decide +kernel), tb1 2 (by decide +kernel) (by decide +kernel), k_Kind_wears, by decide, by decide +kernel, by decide⟩
theorem cz_Runner_13 {x : Cx} {g : Gv} {cc : ByteArray} {nL d pc : Nat} {ret : Option FieldType} {ρ : Option Value × Sg} {L : List (Nat × Value)} {st : List Value} {σ : Sg} (hc : Zc x g cc R_Runner nL ret d) (hd : decode cc pc = .ok (.invokespecial 13, 3)) (hdd : 1 ≤ d) {w0 : Nat} {w1 : Nat} {c1 : Nat} {x2 : Int32} (hv0 : w0 < 6) (hv1 : okR w1 c1) {v : Int32} {σ1 : Sg} (hf : f_Kind_wears w0 w1 c1 x2 σ = some (v, σ1)) (hst : (st.map (fun v => v.category)).sum ≤ 8) (k : Z x g nL ρ (pc + 3) L (.int v :: st) σ1) : Z x g nL ρ pc L (.int x2 :: .ref (gAd g (2, w1, c1)) :: .ref (gAd g (5, w0, 0)) :: st) σ := by
  obtain ⟨C9, T9, N9, hC9⟩ := kcl w0
  exact z_callP (ci := kCi w0) (As := [.ref (gAd g (2, w1, c1)), .int x2]) hc hd pl_Runner_13 hdd (5, w0, 0) (dm_Kind hv0) rfl hC9 (ok_Kind_wears g w0 w1 c1 x2 hv0 hv1 σ (v, σ1) hf) rfl rfl hst rfl k
def f_Runner_wears (w0 : Nat) (w1 : Nat) (c1 : Nat) (x2 : Int32) (σ : Sg) : Option (Int32 × Sg) :=
  b2 (f_Kind_wears w0 w1 c1 x2 σ) (fun v1 σ2 => some (v1 + (iI 1), σ2))
theorem ok_Runner_wears (g : Gv) (w0 : Nat) (w1 : Nat) (c1 : Nat) (x2 : Int32) (hv0 : w0 < 6) (hv1 : okR w1 c1) (σ : Sg) (r : Int32 × Sg) (hf : f_Runner_wears w0 w1 c1 x2 σ = some r) : Ok g y_Runner_wears c_Runner_wears 3 (some .int) 1 [.ref (gAd g (5, w0, 0)), .ref (gAd g (2, w1, c1)), .int x2] σ (some (.int r.1), r.2) := by
  unfold f_Runner_wears at hf
  refine Ok.of [(0, .ref (gAd g (5, w0, 0))), (1, .ref (gAd g (2, w1, c1))), (2, .int x2)] (by decide) (Nat.le_of_ble_eq_true rfl) rfl ?_
  intro x hc
  have hc : Zc x g c_Runner_wears R_Runner 3 (some .int) 1 := hc
  obtain ⟨ρ, hρ⟩ : ∃ ρ : Option Value × Sg, ρ = (some (.int r.1), r.2) := ⟨_, rfl⟩
  rw [← hρ]
  refine z_aload_n hc d_Runner_wears_0 0 rfl ?_
  refine z_aload_n hc d_Runner_wears_1 1 rfl ?_
  refine z_iload_n hc d_Runner_wears_2 2 rfl ?_
  obtain ⟨v1, σ2, h3, hf⟩ := bd2 hf
  refine cz_Runner_13 hc d_Runner_wears_3 (by decide) hv0 hv1 h3 (Nat.le_of_ble_eq_true rfl) ?_
  refine z_iconst (v := (iI 1)) hc d_Runner_wears_6 (by decide) ?_
  refine z_iadd hc d_Runner_wears_7 ?_
  exact z_iret hc d_Runner_wears_8 (rI hf hρ)
theorem pl_Velvet_7 : PL R_Velvet 7 y_Kind_wears c_Kind_wears 3 (some .int) 2 := ⟨tb2 208 (by decide +kernel) (by decide +kernel), tb2 194 (by decide +kernel) (by decide +kernel), tb1 71 (by decide +kernel) (by decide +kernel), tb2 192 (by decide +kernel) (by decide +kernel), tb1 2 (by decide +kernel) (by decide +kernel), k_Kind_wears, by decide, by decide +kernel, by decide⟩
theorem cz_Velvet_7 {x : Cx} {g : Gv} {cc : ByteArray} {nL d pc : Nat} {ret : Option FieldType} {ρ : Option Value × Sg} {L : List (Nat × Value)} {st : List Value} {σ : Sg} (hc : Zc x g cc R_Velvet nL ret d) (hd : decode cc pc = .ok (.invokespecial 7, 3)) (hdd : 1 ≤ d) {w0 : Nat} {w1 : Nat} {c1 : Nat} {x2 : Int32} (hv0 : w0 < 6) (hv1 : okR w1 c1) {v : Int32} {σ1 : Sg} (hf : f_Kind_wears w0 w1 c1 x2 σ = some (v, σ1)) (hst : (st.map (fun v => v.category)).sum ≤ 8) (k : Z x g nL ρ (pc + 3) L (.int v :: st) σ1) : Z x g nL ρ pc L (.int x2 :: .ref (gAd g (2, w1, c1)) :: .ref (gAd g (5, w0, 0)) :: st) σ := by
  obtain ⟨C9, T9, N9, hC9⟩ := kcl w0
  exact z_callP (ci := kCi w0) (As := [.ref (gAd g (2, w1, c1)), .int x2]) hc hd pl_Velvet_7 hdd (5, w0, 0) (dm_Kind hv0) rfl hC9 (ok_Kind_wears g w0 w1 c1 x2 hv0 hv1 σ (v, σ1) hf) rfl rfl hst rfl k
def f_Velvet_wears (w0 : Nat) (w1 : Nat) (c1 : Nat) (x2 : Int32) (σ : Sg) : Option (Int32 × Sg) :=
  b2 (f_Kind_wears w0 w1 c1 x2 σ) (fun v1 σ2 => some (v1 / (iI 2), σ2))
theorem ok_Velvet_wears (g : Gv) (w0 : Nat) (w1 : Nat) (c1 : Nat) (x2 : Int32) (hv0 : w0 < 6) (hv1 : okR w1 c1) (σ : Sg) (r : Int32 × Sg) (hf : f_Velvet_wears w0 w1 c1 x2 σ = some r) : Ok g y_Velvet_wears c_Velvet_wears 3 (some .int) 1 [.ref (gAd g (5, w0, 0)), .ref (gAd g (2, w1, c1)), .int x2] σ (some (.int r.1), r.2) := by
  unfold f_Velvet_wears at hf
  refine Ok.of [(0, .ref (gAd g (5, w0, 0))), (1, .ref (gAd g (2, w1, c1))), (2, .int x2)] (by decide) (Nat.le_of_ble_eq_true rfl) rfl ?_
  intro x hc
  have hc : Zc x g c_Velvet_wears R_Velvet 3 (some .int) 1 := hc
  obtain ⟨ρ, hρ⟩ : ∃ ρ : Option Value × Sg, ρ = (some (.int r.1), r.2) := ⟨_, rfl⟩
  rw [← hρ]
  refine z_aload_n hc d_Velvet_wears_0 0 rfl ?_
  refine z_aload_n hc d_Velvet_wears_1 1 rfl ?_
  refine z_iload_n hc d_Velvet_wears_2 2 rfl ?_
  obtain ⟨v1, σ2, h3, hf⟩ := bd2 hf
  refine cz_Velvet_7 hc d_Velvet_wears_3 (by decide) hv0 hv1 h3 (Nat.le_of_ble_eq_true rfl) ?_
  refine z_iconst (v := (iI 2)) hc d_Velvet_wears_6 (by decide) ?_
  refine z_idiv hc d_Velvet_wears_7 (by decide) ?_
  exact z_iret hc d_Velvet_wears_8 (rI hf hρ)
theorem pl_Stair_17 : PL R_Stair 17 y_Runner_wears c_Runner_wears 3 (some .int) 2 := ⟨tb2 212 (by decide +kernel) (by decide +kernel), tb6 49 (by decide +kernel) (by decide +kernel), tb1 93 (by decide +kernel) (by decide +kernel), tb2 199 (by decide +kernel) (by decide +kernel), tb1 3 (by decide +kernel) (by decide +kernel), k_Runner_wears, by decide, by decide +kernel, by decide⟩
theorem cz_Stair_17 {x : Cx} {g : Gv} {cc : ByteArray} {nL d pc : Nat} {ret : Option FieldType} {ρ : Option Value × Sg} {L : List (Nat × Value)} {st : List Value} {σ : Sg} (hc : Zc x g cc R_Stair nL ret d) (hd : decode cc pc = .ok (.invokespecial 17, 3)) (hdd : 2 ≤ d) {w0 : Nat} {w1 : Nat} {c1 : Nat} {x2 : Int32} (hv0 : w0 < 6) (hv1 : okR w1 c1) {v : Int32} {σ1 : Sg} (hf : f_Runner_wears w0 w1 c1 x2 σ = some (v, σ1)) (hst : (st.map (fun v => v.category)).sum ≤ 8) (k : Z x g nL ρ (pc + 3) L (.int v :: st) σ1) : Z x g nL ρ pc L (.int x2 :: .ref (gAd g (2, w1, c1)) :: .ref (gAd g (5, w0, 0)) :: st) σ := by
  obtain ⟨C9, T9, N9, hC9⟩ := kcl w0
  exact z_callP (ci := kCi w0) (As := [.ref (gAd g (2, w1, c1)), .int x2]) hc hd pl_Stair_17 hdd (5, w0, 0) (dm_Kind hv0) rfl hC9 (ok_Runner_wears g w0 w1 c1 x2 hv0 hv1 σ (v, σ1) hf) rfl rfl hst rfl k
def f_Stair_wears (w0 : Nat) (w1 : Nat) (c1 : Nat) (x2 : Int32) (σ : Sg) : Option (Int32 × Sg) :=
  b2 (f_Runner_wears w0 w1 c1 x2 σ) (fun v1 σ2 => some (v1 + (σ2.1 2 w1 c1 4), σ2))
theorem ok_Stair_wears (g : Gv) (w0 : Nat) (w1 : Nat) (c1 : Nat) (x2 : Int32) (hv0 : w0 < 6) (hv1 : okR w1 c1) (σ : Sg) (r : Int32 × Sg) (hf : f_Stair_wears w0 w1 c1 x2 σ = some r) : Ok g y_Stair_wears c_Stair_wears 3 (some .int) 2 [.ref (gAd g (5, w0, 0)), .ref (gAd g (2, w1, c1)), .int x2] σ (some (.int r.1), r.2) := by
  unfold f_Stair_wears at hf
  refine Ok.of [(0, .ref (gAd g (5, w0, 0))), (1, .ref (gAd g (2, w1, c1))), (2, .int x2)] (by decide) (Nat.le_of_ble_eq_true rfl) rfl ?_
  intro x hc
  have hc : Zc x g c_Stair_wears R_Stair 3 (some .int) 2 := hc
  obtain ⟨ρ, hρ⟩ : ∃ ρ : Option Value × Sg, ρ = (some (.int r.1), r.2) := ⟨_, rfl⟩
  rw [← hρ]
  refine z_aload_n hc d_Stair_wears_0 0 rfl ?_
  refine z_aload_n hc d_Stair_wears_1 1 rfl ?_
  refine z_iload_n hc d_Stair_wears_2 2 rfl ?_
  obtain ⟨v1, σ2, h3, hf⟩ := bd2 hf
  refine cz_Stair_17 hc d_Stair_wears_3 (by decide) hv0 hv1 h3 (Nat.le_of_ble_eq_true rfl) ?_
  refine z_aload_n hc d_Stair_wears_6 1 rfl ?_
  refine gf_Stair_21 hc d_Stair_wears_7 hv1 ?_
  refine z_iadd hc d_Stair_wears_10 ?_
  exact z_iret hc d_Stair_wears_11 (rI hf hρ)
theorem pl_Shag_25 : PL R_Shag 25 y_Velvet_wears c_Velvet_wears 3 (some .int) 2 := ⟨tb2 205 (by decide +kernel) (by decide +kernel), tb6 48 (by decide +kernel) (by decide +kernel), tb1 104 (by decide +kernel) (by decide +kernel), tb2 206 (by decide +kernel) (by decide +kernel), tb1 4 (by decide +kernel) (by decide +kernel), k_Velvet_wears, by decide, by decide +kernel, by decide⟩
theorem cz_Shag_25 {x : Cx} {g : Gv} {cc : ByteArray} {nL d pc : Nat} {ret : Option FieldType} {ρ : Option Value × Sg} {L : List (Nat × Value)} {st : List Value} {σ : Sg} (hc : Zc x g cc R_Shag nL ret d) (hd : decode cc pc = .ok (.invokespecial 25, 3)) (hdd : 2 ≤ d) {w0 : Nat} {w1 : Nat} {c1 : Nat} {x2 : Int32} (hv0 : w0 < 6) (hv1 : okR w1 c1) {v : Int32} {σ1 : Sg} (hf : f_Velvet_wears w0 w1 c1 x2 σ = some (v, σ1)) (hst : (st.map (fun v => v.category)).sum ≤ 8) (k : Z x g nL ρ (pc + 3) L (.int v :: st) σ1) : Z x g nL ρ pc L (.int x2 :: .ref (gAd g (2, w1, c1)) :: .ref (gAd g (5, w0, 0)) :: st) σ := by
  obtain ⟨C9, T9, N9, hC9⟩ := kcl w0
  exact z_callP (ci := kCi w0) (As := [.ref (gAd g (2, w1, c1)), .int x2]) hc hd pl_Shag_25 hdd (5, w0, 0) (dm_Kind hv0) rfl hC9 (ok_Velvet_wears g w0 w1 c1 x2 hv0 hv1 σ (v, σ1) hf) rfl rfl hst rfl k
def f_Shag_wears (w0 : Nat) (w1 : Nat) (c1 : Nat) (x2 : Int32) (σ : Sg) : Option (Int32 × Sg) :=
  b2 (f_Velvet_wears w0 w1 c1 x2 σ) (fun v1 σ2 => some (v1 + x2, σ2))
theorem ok_Shag_wears (g : Gv) (w0 : Nat) (w1 : Nat) (c1 : Nat) (x2 : Int32) (hv0 : w0 < 6) (hv1 : okR w1 c1) (σ : Sg) (r : Int32 × Sg) (hf : f_Shag_wears w0 w1 c1 x2 σ = some r) : Ok g y_Shag_wears c_Shag_wears 3 (some .int) 2 [.ref (gAd g (5, w0, 0)), .ref (gAd g (2, w1, c1)), .int x2] σ (some (.int r.1), r.2) := by
  unfold f_Shag_wears at hf
  refine Ok.of [(0, .ref (gAd g (5, w0, 0))), (1, .ref (gAd g (2, w1, c1))), (2, .int x2)] (by decide) (Nat.le_of_ble_eq_true rfl) rfl ?_
  intro x hc
  have hc : Zc x g c_Shag_wears R_Shag 3 (some .int) 2 := hc
  obtain ⟨ρ, hρ⟩ : ∃ ρ : Option Value × Sg, ρ = (some (.int r.1), r.2) := ⟨_, rfl⟩
  rw [← hρ]
  refine z_aload_n hc d_Shag_wears_0 0 rfl ?_
  refine z_aload_n hc d_Shag_wears_1 1 rfl ?_
  refine z_iload_n hc d_Shag_wears_2 2 rfl ?_
  obtain ⟨v1, σ2, h3, hf⟩ := bd2 hf
  refine cz_Shag_25 hc d_Shag_wears_3 (by decide) hv0 hv1 h3 (Nat.le_of_ble_eq_true rfl) ?_
  refine z_iload_n hc d_Shag_wears_6 2 rfl ?_
  refine z_iadd hc d_Shag_wears_7 ?_
  exact z_iret hc d_Shag_wears_8 (rI hf hρ)
theorem pl_Velvet_11 : PL R_Velvet 11 y_Kind_breeds c_Kind_breeds 2 (some .int) 1 := ⟨tb2 229 (by decide +kernel) (by decide +kernel), tb2 218 (by decide +kernel) (by decide +kernel), tb1 71 (by decide +kernel) (by decide +kernel), tb2 216 (by decide +kernel) (by decide +kernel), tb1 2 (by decide +kernel) (by decide +kernel), k_Kind_breeds, by decide, by decide +kernel, by decide⟩
theorem cz_Velvet_11 {x : Cx} {g : Gv} {cc : ByteArray} {nL d pc : Nat} {ret : Option FieldType} {ρ : Option Value × Sg} {L : List (Nat × Value)} {st : List Value} {σ : Sg} (hc : Zc x g cc R_Velvet nL ret d) (hd : decode cc pc = .ok (.invokespecial 11, 3)) (hdd : 1 ≤ d) {w0 : Nat} {x1 : Int32} (hv0 : w0 < 6) {v : Int32} {σ1 : Sg} (hf : f_Kind_breeds w0 x1 σ = some (v, σ1)) (hst : (st.map (fun v => v.category)).sum ≤ 8) (k : Z x g nL ρ (pc + 3) L (.int v :: st) σ1) : Z x g nL ρ pc L (.int x1 :: .ref (gAd g (5, w0, 0)) :: st) σ := by
  obtain ⟨C9, T9, N9, hC9⟩ := kcl w0
  exact z_callP (ci := kCi w0) (As := [.int x1]) hc hd pl_Velvet_11 hdd (5, w0, 0) (dm_Kind hv0) rfl hC9 (ok_Kind_breeds g w0 x1 hv0 σ (v, σ1) hf) rfl rfl hst rfl k
def f_Velvet_breeds (w0 : Nat) (x1 : Int32) (σ : Sg) : Option (Int32 × Sg) :=
  b2 (f_Kind_breeds w0 x1 σ) (fun v1 σ2 => some (v1 + (iI 1), σ2))
theorem ok_Velvet_breeds (g : Gv) (w0 : Nat) (x1 : Int32) (hv0 : w0 < 6) (σ : Sg) (r : Int32 × Sg) (hf : f_Velvet_breeds w0 x1 σ = some r) : Ok g y_Velvet_breeds c_Velvet_breeds 2 (some .int) 1 [.ref (gAd g (5, w0, 0)), .int x1] σ (some (.int r.1), r.2) := by
  unfold f_Velvet_breeds at hf
  refine Ok.of [(0, .ref (gAd g (5, w0, 0))), (1, .int x1)] (by decide) (Nat.le_of_ble_eq_true rfl) rfl ?_
  intro x hc
  have hc : Zc x g c_Velvet_breeds R_Velvet 2 (some .int) 1 := hc
  obtain ⟨ρ, hρ⟩ : ∃ ρ : Option Value × Sg, ρ = (some (.int r.1), r.2) := ⟨_, rfl⟩
  rw [← hρ]
  refine z_aload_n hc d_Velvet_breeds_0 0 rfl ?_
  refine z_iload_n hc d_Velvet_breeds_1 1 rfl ?_
  obtain ⟨v1, σ2, h3, hf⟩ := bd2 hf
  refine cz_Velvet_11 hc d_Velvet_breeds_2 (by decide) hv0 h3 (Nat.le_of_ble_eq_true rfl) ?_
  refine z_iconst (v := (iI 1)) hc d_Velvet_breeds_5 (by decide) ?_
  refine z_iadd hc d_Velvet_breeds_6 ?_
  exact z_iret hc d_Velvet_breeds_7 (rI hf hρ)
theorem pl_Shag_29 : PL R_Shag 29 y_Velvet_breeds c_Velvet_breeds 2 (some .int) 1 := ⟨tb2 226 (by decide +kernel) (by decide +kernel), tb6 50 (by decide +kernel) (by decide +kernel), tb1 104 (by decide +kernel) (by decide +kernel), tb2 227 (by decide +kernel) (by decide +kernel), tb1 4 (by decide +kernel) (by decide +kernel), k_Velvet_breeds, by decide, by decide +kernel, by decide⟩
theorem cz_Shag_29 {x : Cx} {g : Gv} {cc : ByteArray} {nL d pc : Nat} {ret : Option FieldType} {ρ : Option Value × Sg} {L : List (Nat × Value)} {st : List Value} {σ : Sg} (hc : Zc x g cc R_Shag nL ret d) (hd : decode cc pc = .ok (.invokespecial 29, 3)) (hdd : 2 ≤ d) {w0 : Nat} {x1 : Int32} (hv0 : w0 < 6) {v : Int32} {σ1 : Sg} (hf : f_Velvet_breeds w0 x1 σ = some (v, σ1)) (hst : (st.map (fun v => v.category)).sum ≤ 8) (k : Z x g nL ρ (pc + 3) L (.int v :: st) σ1) : Z x g nL ρ pc L (.int x1 :: .ref (gAd g (5, w0, 0)) :: st) σ := by
  obtain ⟨C9, T9, N9, hC9⟩ := kcl w0
  exact z_callP (ci := kCi w0) (As := [.int x1]) hc hd pl_Shag_29 hdd (5, w0, 0) (dm_Kind hv0) rfl hC9 (ok_Velvet_breeds g w0 x1 hv0 σ (v, σ1) hf) rfl rfl hst rfl k
def f_Shag_breeds (w0 : Nat) (x1 : Int32) (σ : Sg) : Option (Int32 × Sg) :=
  (if x1 = (iI 1) then some ((iI 0), σ) else b2 (f_Velvet_breeds w0 x1 σ) (fun v1 σ2 => some (v1, σ2)))
theorem ok_Shag_breeds (g : Gv) (w0 : Nat) (x1 : Int32) (hv0 : w0 < 6) (σ : Sg) (r : Int32 × Sg) (hf : f_Shag_breeds w0 x1 σ = some r) : Ok g y_Shag_breeds c_Shag_breeds 2 (some .int) 2 [.ref (gAd g (5, w0, 0)), .int x1] σ (some (.int r.1), r.2) := by
  unfold f_Shag_breeds at hf
  refine Ok.of [(0, .ref (gAd g (5, w0, 0))), (1, .int x1)] (by decide) (Nat.le_of_ble_eq_true rfl) rfl ?_
  intro x hc
  have hc : Zc x g c_Shag_breeds R_Shag 2 (some .int) 2 := hc
  obtain ⟨ρ, hρ⟩ : ∃ ρ : Option Value × Sg, ρ = (some (.int r.1), r.2) := ⟨_, rfl⟩
  rw [← hρ]
  refine z_iload_n hc d_Shag_breeds_0 1 rfl ?_
  refine z_iconst (v := (iI 1)) hc d_Shag_breeds_1 (by decide) ?_
  refine z_icmp_ne (tgt := 9) hc d_Shag_breeds_2 (by decide) (fun hq => ?_) (fun hq => ?_)
  · have hf := ifn hq hf
    refine z_aload_n hc d_Shag_breeds_9 0 rfl ?_
    refine z_iload_n hc d_Shag_breeds_10 1 rfl ?_
    obtain ⟨v1, σ2, h3, hf⟩ := bd2 hf
    refine cz_Shag_29 hc d_Shag_breeds_11 (by decide) hv0 h3 (Nat.le_of_ble_eq_true rfl) ?_
    exact z_iret hc d_Shag_breeds_14 (rI hf hρ)
  · have hf := ifp hq hf
    refine z_iconst (v := (iI 0)) hc d_Shag_breeds_5 (by decide) ?_
    refine z_goto (tgt := 14) hc d_Shag_breeds_6 (by decide) ?_
    exact z_iret hc d_Shag_breeds_14 (rI hf hρ)
def v_breeds (w0 : Nat) (x1 : Int32) (σ : Sg) : Option (Int32 × Sg) := if w0 = 0 then f_Kind_breeds w0 x1 σ else if w0 = 1 then f_Kind_breeds w0 x1 σ else if w0 = 2 then f_Velvet_breeds w0 x1 σ else if w0 = 3 then f_Mat_breeds w0 x1 σ else if w0 = 4 then f_Kind_breeds w0 x1 σ else f_Shag_breeds w0 x1 σ
theorem ul_Rug_64_0 : UL R_Rug 64 R_Kind y_Kind_breeds y_Kind_breeds c_Kind_breeds 2 (some .int) 1 := ⟨tb3 83 (by decide +kernel) (by decide +kernel), tb2 218 (by decide +kernel) (by decide +kernel), tb2 216 (by decide +kernel) (by decide +kernel), tb2 217 (by decide +kernel) (by decide +kernel), tb2 216 (by decide +kernel) (by decide +kernel), tb1 2 (by decide +kernel) (by decide +kernel), k_Kind_breeds, ⟨_, _, _, k_Kind_breeds⟩, by decide, by decide, by decide +kernel, by decide⟩
theorem ul_Rug_64_1 : UL R_Rug 64 R_Runner y_Kind_breeds y_Kind_breeds c_Kind_breeds 2 (some .int) 1 := ⟨tb3 83 (by decide +kernel) (by decide +kernel), tb2 218 (by decide +kernel) (by decide +kernel), tb2 216 (by decide +kernel) (by decide +kernel), tb2 222 (by decide +kernel) (by decide +kernel), tb2 216 (by decide +kernel) (by decide +kernel), tb1 2 (by decide +kernel) (by decide +kernel), k_Kind_breeds, ⟨_, _, _, k_Kind_breeds⟩, by decide, by decide, by decide +kernel, by decide⟩
theorem ul_Rug_64_2 : UL R_Rug 64 R_Velvet y_Kind_breeds y_Velvet_breeds c_Velvet_breeds 2 (some .int) 1 := ⟨tb3 83 (by decide +kernel) (by decide +kernel), tb2 218 (by decide +kernel) (by decide +kernel), tb2 216 (by decide +kernel) (by decide +kernel), tb2 231 (by decide +kernel) (by decide +kernel), tb2 227 (by decide +kernel) (by decide +kernel), tb1 4 (by decide +kernel) (by decide +kernel), k_Velvet_breeds, ⟨_, _, _, k_Kind_breeds⟩, by decide, by decide, by decide +kernel, by decide⟩
theorem ul_Rug_64_3 : UL R_Rug 64 R_Mat y_Kind_breeds y_Mat_breeds c_Mat_breeds 2 (some .int) 1 := ⟨tb3 83 (by decide +kernel) (by decide +kernel), tb2 218 (by decide +kernel) (by decide +kernel), tb2 216 (by decide +kernel) (by decide +kernel), tb2 219 (by decide +kernel) (by decide +kernel), tb2 220 (by decide +kernel) (by decide +kernel), tb1 5 (by decide +kernel) (by decide +kernel), k_Mat_breeds, ⟨_, _, _, k_Kind_breeds⟩, by decide, by decide, by decide +kernel, by decide⟩
theorem ul_Rug_64_4 : UL R_Rug 64 R_Stair y_Kind_breeds y_Kind_breeds c_Kind_breeds 2 (some .int) 1 := ⟨tb3 83 (by decide +kernel) (by decide +kernel), tb2 218 (by decide +kernel) (by decide +kernel), tb2 216 (by decide +kernel) (by decide +kernel), tb2 230 (by decide +kernel) (by decide +kernel), tb2 216 (by decide +kernel) (by decide +kernel), tb1 2 (by decide +kernel) (by decide +kernel), k_Kind_breeds, ⟨_, _, _, k_Kind_breeds⟩, by decide, by decide, by decide +kernel, by decide⟩
theorem ul_Rug_64_5 : UL R_Rug 64 R_Shag y_Kind_breeds y_Shag_breeds c_Shag_breeds 2 (some .int) 1 := ⟨tb3 83 (by decide +kernel) (by decide +kernel), tb2 218 (by decide +kernel) (by decide +kernel), tb2 216 (by decide +kernel) (by decide +kernel), tb2 223 (by decide +kernel) (by decide +kernel), tb2 224 (by decide +kernel) (by decide +kernel), tb1 7 (by decide +kernel) (by decide +kernel), k_Shag_breeds, ⟨_, _, _, k_Kind_breeds⟩, by decide, by decide, by decide +kernel, by decide⟩
theorem cz_Rug_64 {x : Cx} {g : Gv} {cc : ByteArray} {nL d pc : Nat} {ret : Option FieldType} {ρ : Option Value × Sg} {L : List (Nat × Value)} {st : List Value} {σ : Sg} (hc : Zc x g cc R_Rug nL ret d) (hd : decode cc pc = .ok (.invokevirtual 64, 3)) (hdd : 3 ≤ d) {w0 : Nat} {x1 : Int32} (hv0 : w0 < 6) {v : Int32} {σ1 : Sg} (hf : v_breeds w0 x1 σ = some (v, σ1)) (hst : (st.map (fun v => v.category)).sum ≤ 8) (k : Z x g nL ρ (pc + 3) L (.int v :: st) σ1) : Z x g nL ρ pc L (.int x1 :: .ref (gAd g (5, w0, 0)) :: st) σ := by
  match w0, hv0 with
  | 0, _ => exact z_callU (ci := 0) (As := [.int x1]) hc hd ul_Rug_64_0 (Nat.le_trans (by decide) hdd) (5, 0, 0) (dm_Kind (by decide)) rfl rfl (ok_Kind_breeds g 0 x1 (by decide) σ (v, σ1) hf) rfl rfl hst rfl k
  | 1, _ => exact z_callU (ci := 3) (As := [.int x1]) hc hd ul_Rug_64_1 (Nat.le_trans (by decide) hdd) (5, 1, 0) (dm_Kind (by decide)) rfl rfl (ok_Kind_breeds g 1 x1 (by decide) σ (v, σ1) hf) rfl rfl hst rfl k
  | 2, _ => exact z_callU (ci := 8) (As := [.int x1]) hc hd ul_Rug_64_2 (Nat.le_trans (by decide) hdd) (5, 2, 0) (dm_Kind (by decide)) rfl rfl (ok_Velvet_breeds g 2 x1 (by decide) σ (v, σ1) hf) rfl rfl hst rfl k
  | 3, _ => exact z_callU (ci := 1) (As := [.int x1]) hc hd ul_Rug_64_3 (Nat.le_trans (by decide) hdd) (5, 3, 0) (dm_Kind (by decide)) rfl rfl (ok_Mat_breeds g 3 x1 (by decide) σ (v, σ1) hf) rfl rfl hst rfl k
  | 4, _ => exact z_callU (ci := 6) (As := [.int x1]) hc hd ul_Rug_64_4 (Nat.le_trans (by decide) hdd) (5, 4, 0) (dm_Kind (by decide)) rfl rfl (ok_Kind_breeds g 4 x1 (by decide) σ (v, σ1) hf) rfl rfl hst rfl k
  | 5, _ => exact z_callU (ci := 4) (As := [.int x1]) hc hd ul_Rug_64_5 (Nat.le_trans (by decide) hdd) (5, 5, 0) (dm_Kind (by decide)) rfl rfl (ok_Shag_breeds g 5 x1 (by decide) σ (v, σ1) hf) rfl rfl hst rfl k
def v_wears (w0 : Nat) (w1 : Nat) (c1 : Nat) (x2 : Int32) (σ : Sg) : Option (Int32 × Sg) := if w0 = 0 then f_Kind_wears w0 w1 c1 x2 σ else if w0 = 1 then f_Runner_wears w0 w1 c1 x2 σ else if w0 = 2 then f_Velvet_wears w0 w1 c1 x2 σ else if w0 = 3 then f_Mat_wears w0 w1 c1 x2 σ else if w0 = 4 then f_Stair_wears w0 w1 c1 x2 σ else f_Shag_wears w0 w1 c1 x2 σ
theorem ul_Rug_57_0 : UL R_Rug 57 R_Kind y_Kind_wears y_Kind_wears c_Kind_wears 3 (some .int) 2 := ⟨tb3 81 (by decide +kernel) (by decide +kernel), tb2 194 (by decide +kernel) (by decide +kernel), tb2 192 (by decide +kernel) (by decide +kernel), tb2 193 (by decide +kernel) (by decide +kernel), tb2 192 (by decide +kernel) (by decide +kernel), tb1 2 (by decide +kernel) (by decide +kernel), k_Kind_wears, ⟨_, _, _, k_Kind_wears⟩, by decide, by decide, by decide +kernel, by decide⟩
theorem ul_Rug_57_1 : UL R_Rug 57 R_Runner y_Kind_wears y_Runner_wears c_Runner_wears 3 (some .int) 2 := ⟨tb3 81 (by decide +kernel) (by decide +kernel), tb2 194 (by decide +kernel) (by decide +kernel), tb2 192 (by decide +kernel) (by decide +kernel), tb2 198 (by decide +kernel) (by decide +kernel), tb2 199 (by decide +kernel) (by decide +kernel), tb1 3 (by decide +kernel) (by decide +kernel), k_Runner_wears, ⟨_, _, _, k_Kind_wears⟩, by decide, by decide, by decide +kernel, by decide⟩
theorem ul_Rug_57_2 : UL R_Rug 57 R_Velvet y_Kind_wears y_Velvet_wears c_Velvet_wears 3 (some .int) 2 := ⟨tb3 81 (by decide +kernel) (by decide +kernel), tb2 194 (by decide +kernel) (by decide +kernel), tb2 192 (by decide +kernel) (by decide +kernel), tb2 213 (by decide +kernel) (by decide +kernel), tb2 206 (by decide +kernel) (by decide +kernel), tb1 4 (by decide +kernel) (by decide +kernel), k_Velvet_wears, ⟨_, _, _, k_Kind_wears⟩, by decide, by decide, by decide +kernel, by decide⟩
theorem ul_Rug_57_3 : UL R_Rug 57 R_Mat y_Kind_wears y_Mat_wears c_Mat_wears 3 (some .int) 2 := ⟨tb3 81 (by decide +kernel) (by decide +kernel), tb2 194 (by decide +kernel) (by decide +kernel), tb2 192 (by decide +kernel) (by decide +kernel), tb2 195 (by decide +kernel) (by decide +kernel), tb2 196 (by decide +kernel) (by decide +kernel), tb1 5 (by decide +kernel) (by decide +kernel), k_Mat_wears, ⟨_, _, _, k_Kind_wears⟩, by decide, by decide, by decide +kernel, by decide⟩
theorem ul_Rug_57_4 : UL R_Rug 57 R_Stair y_Kind_wears y_Stair_wears c_Stair_wears 3 (some .int) 2 := ⟨tb3 81 (by decide +kernel) (by decide +kernel), tb2 194 (by decide +kernel) (by decide +kernel), tb2 192 (by decide +kernel) (by decide +kernel), tb2 209 (by decide +kernel) (by decide +kernel), tb2 210 (by decide +kernel) (by decide +kernel), tb1 6 (by decide +kernel) (by decide +kernel), k_Stair_wears, ⟨_, _, _, k_Kind_wears⟩, by decide, by decide, by decide +kernel, by decide⟩
theorem ul_Rug_57_5 : UL R_Rug 57 R_Shag y_Kind_wears y_Shag_wears c_Shag_wears 3 (some .int) 2 := ⟨tb3 81 (by decide +kernel) (by decide +kernel), tb2 194 (by decide +kernel) (by decide +kernel), tb2 192 (by decide +kernel) (by decide +kernel), tb2 202 (by decide +kernel) (by decide +kernel), tb2 203 (by decide +kernel) (by decide +kernel), tb1 7 (by decide +kernel) (by decide +kernel), k_Shag_wears, ⟨_, _, _, k_Kind_wears⟩, by decide, by decide, by decide +kernel, by decide⟩
theorem cz_Rug_57 {x : Cx} {g : Gv} {cc : ByteArray} {nL d pc : Nat} {ret : Option FieldType} {ρ : Option Value × Sg} {L : List (Nat × Value)} {st : List Value} {σ : Sg} (hc : Zc x g cc R_Rug nL ret d) (hd : decode cc pc = .ok (.invokevirtual 57, 3)) (hdd : 3 ≤ d) {w0 : Nat} {w1 : Nat} {c1 : Nat} {x2 : Int32} (hv0 : w0 < 6) (hv1 : okR w1 c1) {v : Int32} {σ1 : Sg} (hf : v_wears w0 w1 c1 x2 σ = some (v, σ1)) (hst : (st.map (fun v => v.category)).sum ≤ 8) (k : Z x g nL ρ (pc + 3) L (.int v :: st) σ1) : Z x g nL ρ pc L (.int x2 :: .ref (gAd g (2, w1, c1)) :: .ref (gAd g (5, w0, 0)) :: st) σ := by
  match w0, hv0 with
  | 0, _ => exact z_callU (ci := 0) (As := [.ref (gAd g (2, w1, c1)), .int x2]) hc hd ul_Rug_57_0 (Nat.le_trans (by decide) hdd) (5, 0, 0) (dm_Kind (by decide)) rfl rfl (ok_Kind_wears g 0 w1 c1 x2 (by decide) hv1 σ (v, σ1) hf) rfl rfl hst rfl k
  | 1, _ => exact z_callU (ci := 3) (As := [.ref (gAd g (2, w1, c1)), .int x2]) hc hd ul_Rug_57_1 (Nat.le_trans (by decide) hdd) (5, 1, 0) (dm_Kind (by decide)) rfl rfl (ok_Runner_wears g 1 w1 c1 x2 (by decide) hv1 σ (v, σ1) hf) rfl rfl hst rfl k
  | 2, _ => exact z_callU (ci := 8) (As := [.ref (gAd g (2, w1, c1)), .int x2]) hc hd ul_Rug_57_2 (Nat.le_trans (by decide) hdd) (5, 2, 0) (dm_Kind (by decide)) rfl rfl (ok_Velvet_wears g 2 w1 c1 x2 (by decide) hv1 σ (v, σ1) hf) rfl rfl hst rfl k
  | 3, _ => exact z_callU (ci := 1) (As := [.ref (gAd g (2, w1, c1)), .int x2]) hc hd ul_Rug_57_3 (Nat.le_trans (by decide) hdd) (5, 3, 0) (dm_Kind (by decide)) rfl rfl (ok_Mat_wears g 3 w1 c1 x2 (by decide) hv1 σ (v, σ1) hf) rfl rfl hst rfl k
  | 4, _ => exact z_callU (ci := 6) (As := [.ref (gAd g (2, w1, c1)), .int x2]) hc hd ul_Rug_57_4 (Nat.le_trans (by decide) hdd) (5, 4, 0) (dm_Kind (by decide)) rfl rfl (ok_Stair_wears g 4 w1 c1 x2 (by decide) hv1 σ (v, σ1) hf) rfl rfl hst rfl k
  | 5, _ => exact z_callU (ci := 4) (As := [.ref (gAd g (2, w1, c1)), .int x2]) hc hd ul_Rug_57_5 (Nat.le_trans (by decide) hdd) (5, 5, 0) (dm_Kind (by decide)) rfl rfl (ok_Shag_wears g 5 w1 c1 x2 (by decide) hv1 σ (v, σ1) hf) rfl rfl hst rfl k
def f_Rug_passDay (w0 : Nat) (c0 : Nat) (x1 : Int32) (σ : Sg) : Option (Unit × Sg) :=
  b2 (f_Rug_isOut w0 c0 σ) (fun v1 σ2 => (if v1 = (iI 0) then Option.bind (kd (σ2.2.2 2 w0 c0)) (fun k4 => b2 (v_breeds k4 x1 σ2) (fun v6 σ7 => some ((), upI (upI σ7 2 w0 c0 4 (if ((σ2.1 2 w0 c0 4) + v6) < (iI 9) then ((σ2.1 2 w0 c0 4) + v6) else (iI 9))) 2 w0 c0 3 (if (iI 0) < (((upI σ7 2 w0 c0 4 (if ((σ2.1 2 w0 c0 4) + v6) < (iI 9) then ((σ2.1 2 w0 c0 4) + v6) else (iI 9))).1 2 w0 c0 3) - (((upI σ7 2 w0 c0 4 (if ((σ2.1 2 w0 c0 4) + v6) < (iI 9) then ((σ2.1 2 w0 c0 4) + v6) else (iI 9))).1 2 w0 c0 4) / (iI 3))) then (((upI σ7 2 w0 c0 4 (if ((σ2.1 2 w0 c0 4) + v6) < (iI 9) then ((σ2.1 2 w0 c0 4) + v6) else (iI 9))).1 2 w0 c0 3) - (((upI σ7 2 w0 c0 4 (if ((σ2.1 2 w0 c0 4) + v6) < (iI 9) then ((σ2.1 2 w0 c0 4) + v6) else (iI 9))).1 2 w0 c0 4) / (iI 3))) else (iI 0))))) else Option.bind (kd (σ2.2.2 2 w0 c0)) (fun k9 => b2 (v_wears k9 w0 c0 x1 σ2) (fun v11 σ12 => (if ((upI σ12 2 w0 c0 3 (if (iI 0) < ((σ2.1 2 w0 c0 3) - v11) then ((σ2.1 2 w0 c0 3) - v11) else (iI 0))).1 2 w0 c0 3) = (iI 0) then b2 (f_Rug_putAway w0 c0 (upI σ12 2 w0 c0 3 (if (iI 0) < ((σ2.1 2 w0 c0 3) - v11) then ((σ2.1 2 w0 c0 3) - v11) else (iI 0)))) (fun v14 σ15 => some ((), σ15)) else some ((), upI σ12 2 w0 c0 3 (if (iI 0) < ((σ2.1 2 w0 c0 3) - v11) then ((σ2.1 2 w0 c0 3) - v11) else (iI 0))))))))
theorem ok_Rug_passDay (g : Gv) (w0 : Nat) (c0 : Nat) (x1 : Int32) (hv0 : okR w0 c0) (σ : Sg) (r : Unit × Sg) (hf : f_Rug_passDay w0 c0 x1 σ = some r) : Ok g y_Rug_passDay c_Rug_passDay 2 none 3 [.ref (gAd g (2, w0, c0)), .int x1] σ (none, r.2) := by
  unfold f_Rug_passDay at hf
  refine Ok.of [(0, .ref (gAd g (2, w0, c0))), (1, .int x1)] (by decide) (Nat.le_of_ble_eq_true rfl) rfl ?_
  intro x hc
  have hc : Zc x g c_Rug_passDay R_Rug 2 none 3 := hc
  obtain ⟨ρ, hρ⟩ : ∃ ρ : Option Value × Sg, ρ = (none, r.2) := ⟨_, rfl⟩
  rw [← hρ]
  refine z_aload_n hc d_Rug_passDay_0 0 rfl ?_
  obtain ⟨v1, σ2, h3, hf⟩ := bd2 hf
  refine cz_Rug_37 hc d_Rug_passDay_1 (by decide) hv0 h3 (Nat.le_of_ble_eq_true rfl) ?_
  refine z_if_eq (tgt := 43) hc d_Rug_passDay_4 (by decide) (fun hq => ?_) (fun hq => ?_)
  · have hf := ifp hq hf
    refine z_aload_n hc d_Rug_passDay_43 0 rfl ?_
    refine z_bipush (v := (iI 9)) hc d_Rug_passDay_44 (by decide) ?_
    refine z_aload_n hc d_Rug_passDay_46 0 rfl ?_
    refine gf_Rug_28 hc d_Rug_passDay_47 hv0 ?_
    refine z_aload_n hc d_Rug_passDay_50 0 rfl ?_
    obtain ⟨k4, hk0, hf⟩ := bd hf
    have hk5 := kd_lt hk0
    refine gf_Rug_9 hc d_Rug_passDay_51 hv0 hk0 ?_
    refine z_iload_n hc d_Rug_passDay_54 1 rfl ?_
    obtain ⟨v6, σ7, h8, hf⟩ := bd2 hf
    refine cz_Rug_64 hc d_Rug_passDay_55 (by decide) hk5 h8 (Nat.le_of_ble_eq_true rfl) ?_
    refine z_iadd hc d_Rug_passDay_58 ?_
    refine z_min hc d_Rug_passDay_59 ml_Rug_47 (by decide) (Nat.le_of_ble_eq_true rfl) ?_
    refine pf_Rug_28 hc d_Rug_passDay_62 hv0 ?_
    refine z_aload_n hc d_Rug_passDay_65 0 rfl ?_
    refine z_iconst (v := (iI 0)) hc d_Rug_passDay_66 (by decide) ?_
    refine z_aload_n hc d_Rug_passDay_67 0 rfl ?_
    refine gf_Rug_25 hc d_Rug_passDay_68 hv0 ?_
    refine z_aload_n hc d_Rug_passDay_71 0 rfl ?_
    refine gf_Rug_28 hc d_Rug_passDay_72 hv0 ?_
    refine z_iconst (v := (iI 3)) hc d_Rug_passDay_75 (by decide) ?_
    refine z_idiv hc d_Rug_passDay_76 (by decide) ?_
    refine z_isub hc d_Rug_passDay_77 ?_
    refine z_max hc d_Rug_passDay_78 ml_Rug_61 (by decide) (Nat.le_of_ble_eq_true rfl) ?_
    refine pf_Rug_25 hc d_Rug_passDay_81 hv0 ?_
    exact z_vret hc d_Rug_passDay_84 (rV hf hρ)
  · have hf := ifn hq hf
    refine z_aload_n hc d_Rug_passDay_7 0 rfl ?_
    refine z_iconst (v := (iI 0)) hc d_Rug_passDay_8 (by decide) ?_
    refine z_aload_n hc d_Rug_passDay_9 0 rfl ?_
    refine gf_Rug_25 hc d_Rug_passDay_10 hv0 ?_
    refine z_aload_n hc d_Rug_passDay_13 0 rfl ?_
    obtain ⟨k9, hk0, hf⟩ := bd hf
    have hk10 := kd_lt hk0
    refine gf_Rug_9 hc d_Rug_passDay_14 hv0 hk0 ?_
    refine z_aload_n hc d_Rug_passDay_17 0 rfl ?_
    refine z_iload_n hc d_Rug_passDay_18 1 rfl ?_
    obtain ⟨v11, σ12, h13, hf⟩ := bd2 hf
    refine cz_Rug_57 hc d_Rug_passDay_19 (by decide) hk10 hv0 h13 (Nat.le_of_ble_eq_true rfl) ?_
    refine z_isub hc d_Rug_passDay_22 ?_
    refine z_max hc d_Rug_passDay_23 ml_Rug_61 (by decide) (Nat.le_of_ble_eq_true rfl) ?_
    refine pf_Rug_25 hc d_Rug_passDay_26 hv0 ?_
    refine z_aload_n hc d_Rug_passDay_29 0 rfl ?_
    refine gf_Rug_25 hc d_Rug_passDay_30 hv0 ?_
    refine z_if_ne (tgt := 84) hc d_Rug_passDay_33 (by decide) (fun hq => ?_) (fun hq => ?_)
    · have hf := ifn hq hf
      exact z_vret hc d_Rug_passDay_84 (rV hf hρ)
    · have hf := ifp hq hf
      refine z_aload_n hc d_Rug_passDay_36 0 rfl ?_
      obtain ⟨v14, σ15, h16, hf⟩ := bd2 hf
      refine cz_Rug_31 hc d_Rug_passDay_37 (by decide) hv0 h16 (Nat.le_of_ble_eq_true rfl) ?_
      refine z_goto (tgt := 84) hc d_Rug_passDay_40 (by decide) ?_
      exact z_vret hc d_Rug_passDay_84 (rV hf hρ)
theorem pl_Runner_17 : PL R_Runner 17 y_Kind_gains c_Kind_gains 2 (some .int) 1 := ⟨tb3 3 (by decide +kernel) (by decide +kernel), tb2 236 (by decide +kernel) (by decide +kernel), tb1 60 (by decide +kernel) (by decide +kernel), tb2 234 (by decide +kernel) (by decide +kernel), tb1 2 (by decide +kernel) (by decide +kernel), k_Kind_gains, by decide, by decide +kernel, by decide⟩
theorem cz_Runner_17 {x : Cx} {g : Gv} {cc : ByteArray} {nL d pc : Nat} {ret : Option FieldType} {ρ : Option Value × Sg} {L : List (Nat × Value)} {st : List Value} {σ : Sg} (hc : Zc x g cc R_Runner nL ret d) (hd : decode cc pc = .ok (.invokespecial 17, 3)) (hdd : 1 ≤ d) {w0 : Nat} {w1 : Nat} {c1 : Nat} (hv0 : w0 < 6) (hv1 : okR w1 c1) {v : Int32} {σ1 : Sg} (hf : f_Kind_gains w0 w1 c1 σ = some (v, σ1)) (hst : (st.map (fun v => v.category)).sum ≤ 8) (k : Z x g nL ρ (pc + 3) L (.int v :: st) σ1) : Z x g nL ρ pc L (.ref (gAd g (2, w1, c1)) :: .ref (gAd g (5, w0, 0)) :: st) σ := by
  obtain ⟨C9, T9, N9, hC9⟩ := kcl w0
  exact z_callP (ci := kCi w0) (As := [.ref (gAd g (2, w1, c1))]) hc hd pl_Runner_17 hdd (5, w0, 0) (dm_Kind hv0) rfl hC9 (ok_Kind_gains g w0 w1 c1 hv0 hv1 σ (v, σ1) hf) rfl rfl hst rfl k
def f_Runner_gains (w0 : Nat) (w1 : Nat) (c1 : Nat) (σ : Sg) : Option (Int32 × Sg) :=
  b2 (f_Kind_gains w0 w1 c1 σ) (fun v1 σ2 => some (v1 - (σ2.1 2 w1 c1 4), σ2))
theorem ok_Runner_gains (g : Gv) (w0 : Nat) (w1 : Nat) (c1 : Nat) (hv0 : w0 < 6) (hv1 : okR w1 c1) (σ : Sg) (r : Int32 × Sg) (hf : f_Runner_gains w0 w1 c1 σ = some r) : Ok g y_Runner_gains c_Runner_gains 2 (some .int) 1 [.ref (gAd g (5, w0, 0)), .ref (gAd g (2, w1, c1))] σ (some (.int r.1), r.2) := by
  unfold f_Runner_gains at hf
  refine Ok.of [(0, .ref (gAd g (5, w0, 0))), (1, .ref (gAd g (2, w1, c1)))] (by decide) (Nat.le_of_ble_eq_true rfl) rfl ?_
  intro x hc
  have hc : Zc x g c_Runner_gains R_Runner 2 (some .int) 1 := hc
  obtain ⟨ρ, hρ⟩ : ∃ ρ : Option Value × Sg, ρ = (some (.int r.1), r.2) := ⟨_, rfl⟩
  rw [← hρ]
  refine z_aload_n hc d_Runner_gains_0 0 rfl ?_
  refine z_aload_n hc d_Runner_gains_1 1 rfl ?_
  obtain ⟨v1, σ2, h3, hf⟩ := bd2 hf
  refine cz_Runner_17 hc d_Runner_gains_2 (by decide) hv0 hv1 h3 (Nat.le_of_ble_eq_true rfl) ?_
  refine z_aload_n hc d_Runner_gains_5 1 rfl ?_
  refine gf_Runner_21 hc d_Runner_gains_6 hv1 ?_
  refine z_isub hc d_Runner_gains_9 ?_
  exact z_iret hc d_Runner_gains_10 (rI hf hρ)
theorem pl_Velvet_15 : PL R_Velvet 15 y_Kind_gains c_Kind_gains 2 (some .int) 1 := ⟨tb3 10 (by decide +kernel) (by decide +kernel), tb2 236 (by decide +kernel) (by decide +kernel), tb1 71 (by decide +kernel) (by decide +kernel), tb2 234 (by decide +kernel) (by decide +kernel), tb1 2 (by decide +kernel) (by decide +kernel), k_Kind_gains, by decide, by decide +kernel, by decide⟩
theorem cz_Velvet_15 {x : Cx} {g : Gv} {cc : ByteArray} {nL d pc : Nat} {ret : Option FieldType} {ρ : Option Value × Sg} {L : List (Nat × Value)} {st : List Value} {σ : Sg} (hc : Zc x g cc R_Velvet nL ret d) (hd : decode cc pc = .ok (.invokespecial 15, 3)) (hdd : 1 ≤ d) {w0 : Nat} {w1 : Nat} {c1 : Nat} (hv0 : w0 < 6) (hv1 : okR w1 c1) {v : Int32} {σ1 : Sg} (hf : f_Kind_gains w0 w1 c1 σ = some (v, σ1)) (hst : (st.map (fun v => v.category)).sum ≤ 8) (k : Z x g nL ρ (pc + 3) L (.int v :: st) σ1) : Z x g nL ρ pc L (.ref (gAd g (2, w1, c1)) :: .ref (gAd g (5, w0, 0)) :: st) σ := by
  obtain ⟨C9, T9, N9, hC9⟩ := kcl w0
  exact z_callP (ci := kCi w0) (As := [.ref (gAd g (2, w1, c1))]) hc hd pl_Velvet_15 hdd (5, w0, 0) (dm_Kind hv0) rfl hC9 (ok_Kind_gains g w0 w1 c1 hv0 hv1 σ (v, σ1) hf) rfl rfl hst rfl k
def f_Velvet_gains (w0 : Nat) (w1 : Nat) (c1 : Nat) (σ : Sg) : Option (Int32 × Sg) :=
  b2 (f_Kind_gains w0 w1 c1 σ) (fun v1 σ2 => some (v1 - (iI 4), σ2))
theorem ok_Velvet_gains (g : Gv) (w0 : Nat) (w1 : Nat) (c1 : Nat) (hv0 : w0 < 6) (hv1 : okR w1 c1) (σ : Sg) (r : Int32 × Sg) (hf : f_Velvet_gains w0 w1 c1 σ = some r) : Ok g y_Velvet_gains c_Velvet_gains 2 (some .int) 1 [.ref (gAd g (5, w0, 0)), .ref (gAd g (2, w1, c1))] σ (some (.int r.1), r.2) := by
  unfold f_Velvet_gains at hf
  refine Ok.of [(0, .ref (gAd g (5, w0, 0))), (1, .ref (gAd g (2, w1, c1)))] (by decide) (Nat.le_of_ble_eq_true rfl) rfl ?_
  intro x hc
  have hc : Zc x g c_Velvet_gains R_Velvet 2 (some .int) 1 := hc
  obtain ⟨ρ, hρ⟩ : ∃ ρ : Option Value × Sg, ρ = (some (.int r.1), r.2) := ⟨_, rfl⟩
  rw [← hρ]
  refine z_aload_n hc d_Velvet_gains_0 0 rfl ?_
  refine z_aload_n hc d_Velvet_gains_1 1 rfl ?_
  obtain ⟨v1, σ2, h3, hf⟩ := bd2 hf
  refine cz_Velvet_15 hc d_Velvet_gains_2 (by decide) hv0 hv1 h3 (Nat.le_of_ble_eq_true rfl) ?_
  refine z_iconst (v := (iI 4)) hc d_Velvet_gains_5 (by decide) ?_
  refine z_isub hc d_Velvet_gains_6 ?_
  exact z_iret hc d_Velvet_gains_7 (rI hf hρ)
theorem pl_Shag_33 : PL R_Shag 33 y_Velvet_gains c_Velvet_gains 2 (some .int) 1 := ⟨tb3 7 (by decide +kernel) (by decide +kernel), tb6 51 (by decide +kernel) (by decide +kernel), tb1 104 (by decide +kernel) (by decide +kernel), tb3 8 (by decide +kernel) (by decide +kernel), tb1 4 (by decide +kernel) (by decide +kernel), k_Velvet_gains, by decide, by decide +kernel, by decide⟩
theorem cz_Shag_33 {x : Cx} {g : Gv} {cc : ByteArray} {nL d pc : Nat} {ret : Option FieldType} {ρ : Option Value × Sg} {L : List (Nat × Value)} {st : List Value} {σ : Sg} (hc : Zc x g cc R_Shag nL ret d) (hd : decode cc pc = .ok (.invokespecial 33, 3)) (hdd : 2 ≤ d) {w0 : Nat} {w1 : Nat} {c1 : Nat} (hv0 : w0 < 6) (hv1 : okR w1 c1) {v : Int32} {σ1 : Sg} (hf : f_Velvet_gains w0 w1 c1 σ = some (v, σ1)) (hst : (st.map (fun v => v.category)).sum ≤ 8) (k : Z x g nL ρ (pc + 3) L (.int v :: st) σ1) : Z x g nL ρ pc L (.ref (gAd g (2, w1, c1)) :: .ref (gAd g (5, w0, 0)) :: st) σ := by
  obtain ⟨C9, T9, N9, hC9⟩ := kcl w0
  exact z_callP (ci := kCi w0) (As := [.ref (gAd g (2, w1, c1))]) hc hd pl_Shag_33 hdd (5, w0, 0) (dm_Kind hv0) rfl hC9 (ok_Velvet_gains g w0 w1 c1 hv0 hv1 σ (v, σ1) hf) rfl rfl hst rfl k
def f_Shag_gains (w0 : Nat) (w1 : Nat) (c1 : Nat) (σ : Sg) : Option (Int32 × Sg) :=
  b2 (f_Velvet_gains w0 w1 c1 σ) (fun v1 σ2 => some ((iI 2) * v1, σ2))
theorem ok_Shag_gains (g : Gv) (w0 : Nat) (w1 : Nat) (c1 : Nat) (hv0 : w0 < 6) (hv1 : okR w1 c1) (σ : Sg) (r : Int32 × Sg) (hf : f_Shag_gains w0 w1 c1 σ = some r) : Ok g y_Shag_gains c_Shag_gains 2 (some .int) 2 [.ref (gAd g (5, w0, 0)), .ref (gAd g (2, w1, c1))] σ (some (.int r.1), r.2) := by
  unfold f_Shag_gains at hf
  refine Ok.of [(0, .ref (gAd g (5, w0, 0))), (1, .ref (gAd g (2, w1, c1)))] (by decide) (Nat.le_of_ble_eq_true rfl) rfl ?_
  intro x hc
  have hc : Zc x g c_Shag_gains R_Shag 2 (some .int) 2 := hc
  obtain ⟨ρ, hρ⟩ : ∃ ρ : Option Value × Sg, ρ = (some (.int r.1), r.2) := ⟨_, rfl⟩
  rw [← hρ]
  refine z_iconst (v := (iI 2)) hc d_Shag_gains_0 (by decide) ?_
  refine z_aload_n hc d_Shag_gains_1 0 rfl ?_
  refine z_aload_n hc d_Shag_gains_2 1 rfl ?_
  obtain ⟨v1, σ2, h3, hf⟩ := bd2 hf
  refine cz_Shag_33 hc d_Shag_gains_3 (by decide) hv0 hv1 h3 (Nat.le_of_ble_eq_true rfl) ?_
  refine z_imul hc d_Shag_gains_6 ?_
  exact z_iret hc d_Shag_gains_7 (rI hf hρ)
def b_Sheet_begin_12 (w0 : Nat) (x3 : Int32) (σ : Sg) : Option ((Int32 × Sg) ⊕ (Sg)) :=
  (if (iI 40) ≤ x3 then some (.inr σ) else Option.bind (rd x3 40) (fun j1 => some (.inl (x3 + (iI 1), upL σ 17 w0 0 j1 (lI 0)))))
theorem sb_Sheet_begin_12 {x : Cx} {g : Gv} {ρ : Option Value × Sg} (hc : Zc x g c_Sheet_begin R_Sheet 4 none 0) (w0 : Nat) (hv0 : w0 < 4) (x3 : Int32) (σ : Sg) (r : (Int32 × Sg) ⊕ (Sg)) (hf : b_Sheet_begin_12 w0 x3 σ = some r) (hi : ∀ a', r = .inl a' → Z x g 4 ρ 12 [(0, .ref (gAd g (3, w0, 0))), (3, .int a'.1)] [] a'.2) (he0 : ∀ b, r = .inr b → Z x g 4 ρ 31 [] [] b) : Z x g 4 ρ 12 [(0, .ref (gAd g (3, w0, 0))), (3, .int x3)] [] σ := by
  unfold b_Sheet_begin_12 at hf
  refine z_iload_n hc d_Sheet_begin_12 1 rfl ?_
  refine z_bipush (v := (iI 40)) hc d_Sheet_begin_13 (by decide) ?_
  refine z_icmp_ge (tgt := 31) hc d_Sheet_begin_15 (by decide) (fun hq => ?_) (fun hq => ?_)
  · have hf := ifp hq hf
    refine z_sub [] (L' := []) rfl ?_
    exact he0 σ (Option.some.inj hf).symm
  · have hf := ifn hq hf
    refine z_aload_n hc d_Sheet_begin_18 0 rfl ?_
    refine gf_Sheet_9 hc d_Sheet_begin_19 hv0 ?_
    refine z_iload_n hc d_Sheet_begin_22 1 rfl ?_
    refine z_lconst (v := (lI 0)) hc d_Sheet_begin_23 (by decide) ?_
    obtain ⟨j1, hj2, hf⟩ := bd hf
    refine ast_numbers hc d_Sheet_begin_24 hv0 hj2 ?_
    refine z_iinc (v := x3 + (iI 1)) (L' := [(3, .int (x3 + (iI 1))), (0, .ref (gAd g (3, w0, 0)))]) hc d_Sheet_begin_25 1 rfl rfl (by decide) rfl ?_
    refine z_goto (tgt := 12) hc d_Sheet_begin_28 (by decide) ?_
    refine z_sub [1, 0] (L' := [(0, .ref (gAd g (3, w0, 0))), (3, .int (x3 + (iI 1)))]) rfl ?_
    exact hi (x3 + (iI 1), upL σ 17 w0 0 j1 (lI 0)) (Option.some.inj hf).symm
def f_Sheet_begin (w0 : Nat) (x1 : Int32) (x2 : Int32) (σ : Sg) : Option (Unit × Sg) :=
  Option.bind (lp (fun a => b_Sheet_begin_12 w0 a.1 a.2) FU ((iI 0), upI (upI σ 3 w0 0 0 x1) 3 w0 0 1 x2)) (fun b5 => some ((), b5))
theorem ok_Sheet_begin (g : Gv) (w0 : Nat) (x1 : Int32) (x2 : Int32) (hv0 : w0 < 4) (σ : Sg) (r : Unit × Sg) (hf : f_Sheet_begin w0 x1 x2 σ = some r) : Ok g y_Sheet_begin c_Sheet_begin 4 none 0 [.ref (gAd g (3, w0, 0)), .int x1, .int x2] σ (none, r.2) := by
  unfold f_Sheet_begin at hf
  refine Ok.of [(0, .ref (gAd g (3, w0, 0))), (1, .int x1), (2, .int x2)] (by decide) (Nat.le_of_ble_eq_true rfl) rfl ?_
  intro x hc
  have hc : Zc x g c_Sheet_begin R_Sheet 4 none 0 := hc
  obtain ⟨ρ, hρ⟩ : ∃ ρ : Option Value × Sg, ρ = (none, r.2) := ⟨_, rfl⟩
  rw [← hρ]
  refine z_aload_n hc d_Sheet_begin_0 0 rfl ?_
  refine z_iload_n hc d_Sheet_begin_1 1 rfl ?_
  refine pf_Sheet_15 hc d_Sheet_begin_2 hv0 ?_
  refine z_aload_n hc d_Sheet_begin_5 0 rfl ?_
  refine z_iload_n hc d_Sheet_begin_6 2 rfl ?_
  refine pf_Sheet_19 hc d_Sheet_begin_7 hv0 ?_
  refine z_iconst (v := (iI 0)) hc d_Sheet_begin_10 (by decide) ?_
  refine z_istore_n (L' := [(3, .int (iI 0)), (0, .ref (gAd g (3, w0, 0))), (1, .int x1), (2, .int x2)]) hc d_Sheet_begin_11 (by decide) rfl ?_
  refine z_sub [1, 0] (L' := [(0, .ref (gAd g (3, w0, 0))), (3, .int (iI 0))]) rfl ?_
  obtain ⟨σ4, hl6, hf⟩ := bd hf
  try dsimp only at hf
  refine lp_walk (α := (Int32 × Sg)) (β := (Sg)) (body := (fun a : (Int32 × Sg) => b_Sheet_begin_12 w0 a.1 a.2)) (In := (fun a : (Int32 × Sg) => Z x g 4 ρ 12 [(0, .ref (gAd g (3, w0, 0))), (3, .int a.1)] [] a.2)) (Out := (fun b => Z x g 4 ρ 31 [] [] b)) (fun a r hb hi ho => sb_Sheet_begin_12 hc w0 hv0 a.1 a.2 r hb hi (fun b e => ho _ e)) FU ((iI 0), upI (upI σ 3 w0 0 0 x1) 3 w0 0 1 x2) _ hl6 ?_
  exact z_vret hc d_Sheet_begin_31 (rV hf hρ)
def f_Sheet_isMissing (w0 : Nat) (σ : Sg) : Option (Int32 × Sg) :=
  (if (σ.1 3 w0 0 0) = (iI 0) then some ((iI 1), σ) else some ((iI 0), σ))
theorem ok_Sheet_isMissing (g : Gv) (w0 : Nat) (hv0 : w0 < 4) (σ : Sg) (r : Int32 × Sg) (hf : f_Sheet_isMissing w0 σ = some r) : Ok g y_Sheet_isMissing c_Sheet_isMissing 1 (some .boolean) 0 [.ref (gAd g (3, w0, 0))] σ (some (.int r.1), r.2) := by
  unfold f_Sheet_isMissing at hf
  refine Ok.of [(0, .ref (gAd g (3, w0, 0)))] (by decide) (Nat.le_of_ble_eq_true rfl) rfl ?_
  intro x hc
  have hc : Zc x g c_Sheet_isMissing R_Sheet 1 (some .boolean) 0 := hc
  obtain ⟨ρ, hρ⟩ : ∃ ρ : Option Value × Sg, ρ = (some (.int r.1), r.2) := ⟨_, rfl⟩
  rw [← hρ]
  refine z_aload_n hc d_Sheet_isMissing_0 0 rfl ?_
  refine gf_Sheet_15 hc d_Sheet_isMissing_1 hv0 ?_
  refine z_if_ne (tgt := 11) hc d_Sheet_isMissing_4 (by decide) (fun hq => ?_) (fun hq => ?_)
  · have hf := ifn hq hf
    refine z_iconst (v := (iI 0)) hc d_Sheet_isMissing_11 (by decide) ?_
    exact z_zret hc d_Sheet_isMissing_12 (by decide) (rI hf hρ)
  · have hf := ifp hq hf
    refine z_iconst (v := (iI 1)) hc d_Sheet_isMissing_7 (by decide) ?_
    refine z_goto (tgt := 12) hc d_Sheet_isMissing_8 (by decide) ?_
    exact z_zret hc d_Sheet_isMissing_12 (by decide) (rI hf hρ)
def f_Sheet_hasRow (w0 : Nat) (x1 : Int32) (x2 : Int32) (σ : Sg) : Option (Int32 × Sg) :=
  (if x1 < (iI 0) then some ((iI 0), σ) else (if x2 < (iI 0) then some ((iI 0), σ) else (if (σ.1 3 w0 0 1) < x1 then some ((iI 0), σ) else (if ((σ.1 3 w0 0 1) - x1) < x2 then some ((iI 0), σ) else some ((iI 1), σ)))))
theorem ok_Sheet_hasRow (g : Gv) (w0 : Nat) (x1 : Int32) (x2 : Int32) (hv0 : w0 < 4) (σ : Sg) (r : Int32 × Sg) (hf : f_Sheet_hasRow w0 x1 x2 σ = some r) : Ok g y_Sheet_hasRow c_Sheet_hasRow 3 (some .boolean) 0 [.ref (gAd g (3, w0, 0)), .int x1, .int x2] σ (some (.int r.1), r.2) := by
  unfold f_Sheet_hasRow at hf
  refine Ok.of [(0, .ref (gAd g (3, w0, 0))), (1, .int x1), (2, .int x2)] (by decide) (Nat.le_of_ble_eq_true rfl) rfl ?_
  intro x hc
  have hc : Zc x g c_Sheet_hasRow R_Sheet 3 (some .boolean) 0 := hc
  obtain ⟨ρ, hρ⟩ : ∃ ρ : Option Value × Sg, ρ = (some (.int r.1), r.2) := ⟨_, rfl⟩
  rw [← hρ]
  refine z_iload_n hc d_Sheet_hasRow_0 1 rfl ?_
  refine z_if_lt (tgt := 30) hc d_Sheet_hasRow_1 (by decide) (fun hq => ?_) (fun hq => ?_)
  · have hf := ifp hq hf
    refine z_iconst (v := (iI 0)) hc d_Sheet_hasRow_30 (by decide) ?_
    exact z_zret hc d_Sheet_hasRow_31 (by decide) (rI hf hρ)
  · have hf := ifn hq hf
    refine z_iload_n hc d_Sheet_hasRow_4 2 rfl ?_
    refine z_if_lt (tgt := 30) hc d_Sheet_hasRow_5 (by decide) (fun hq => ?_) (fun hq => ?_)
    · have hf := ifp hq hf
      refine z_iconst (v := (iI 0)) hc d_Sheet_hasRow_30 (by decide) ?_
      exact z_zret hc d_Sheet_hasRow_31 (by decide) (rI hf hρ)
    · have hf := ifn hq hf
      refine z_iload_n hc d_Sheet_hasRow_8 1 rfl ?_
      refine z_aload_n hc d_Sheet_hasRow_9 0 rfl ?_
      refine gf_Sheet_19 hc d_Sheet_hasRow_10 hv0 ?_
      refine z_icmp_gt (tgt := 30) hc d_Sheet_hasRow_13 (by decide) (fun hq => ?_) (fun hq => ?_)
      · have hf := ifp hq hf
        refine z_iconst (v := (iI 0)) hc d_Sheet_hasRow_30 (by decide) ?_
        exact z_zret hc d_Sheet_hasRow_31 (by decide) (rI hf hρ)
      · have hf := ifn hq hf
        refine z_iload_n hc d_Sheet_hasRow_16 2 rfl ?_
        refine z_aload_n hc d_Sheet_hasRow_17 0 rfl ?_
        refine gf_Sheet_19 hc d_Sheet_hasRow_18 hv0 ?_
        refine z_iload_n hc d_Sheet_hasRow_21 1 rfl ?_
        refine z_isub hc d_Sheet_hasRow_22 ?_
        refine z_icmp_gt (tgt := 30) hc d_Sheet_hasRow_23 (by decide) (fun hq => ?_) (fun hq => ?_)
        · have hf := ifp hq hf
          refine z_iconst (v := (iI 0)) hc d_Sheet_hasRow_30 (by decide) ?_
          exact z_zret hc d_Sheet_hasRow_31 (by decide) (rI hf hρ)
        · have hf := ifn hq hf
          refine z_iconst (v := (iI 1)) hc d_Sheet_hasRow_26 (by decide) ?_
          refine z_goto (tgt := 31) hc d_Sheet_hasRow_27 (by decide) ?_
          exact z_zret hc d_Sheet_hasRow_31 (by decide) (rI hf hρ)
def f_Sheet_putNumber (w0 : Nat) (x1 : Int32) (x2 : Int64) (σ : Sg) : Option (Unit × Sg) :=
  (if x1 < (iI 0) then some ((), σ) else (if x1 < (σ.1 3 w0 0 1) then (if (σ.1 3 w0 0 0) = (iI 8) then Option.bind (rd x1 40) (fun j5 => some ((), upL σ 17 w0 0 j5 ((((x2 : Int64).toInt32 : Int32).toInt8.toInt32 : Int32).toInt64))) else (if (σ.1 3 w0 0 0) = (iI 16) then Option.bind (rd x1 40) (fun j3 => some ((), upL σ 17 w0 0 j3 ((((x2 : Int64).toInt32 : Int32).toInt16.toInt32 : Int32).toInt64))) else Option.bind (rd x1 40) (fun j1 => some ((), upL σ 17 w0 0 j1 x2)))) else some ((), σ)))
theorem ok_Sheet_putNumber (g : Gv) (w0 : Nat) (x1 : Int32) (x2 : Int64) (hv0 : w0 < 4) (σ : Sg) (r : Unit × Sg) (hf : f_Sheet_putNumber w0 x1 x2 σ = some r) : Ok g y_Sheet_putNumber c_Sheet_putNumber 4 none 0 [.ref (gAd g (3, w0, 0)), .int x1, .long x2] σ (none, r.2) := by
  unfold f_Sheet_putNumber at hf
  refine Ok.of [(0, .ref (gAd g (3, w0, 0))), (1, .int x1), (2, .long x2)] (by decide) (Nat.le_of_ble_eq_true rfl) rfl ?_
  intro x hc
  have hc : Zc x g c_Sheet_putNumber R_Sheet 4 none 0 := hc
  obtain ⟨ρ, hρ⟩ : ∃ ρ : Option Value × Sg, ρ = (none, r.2) := ⟨_, rfl⟩
  rw [← hρ]
  refine z_iload_n hc d_Sheet_putNumber_0 1 rfl ?_
  refine z_if_lt (tgt := 12) hc d_Sheet_putNumber_1 (by decide) (fun hq => ?_) (fun hq => ?_)
  · have hf := ifp hq hf
    exact z_vret hc d_Sheet_putNumber_12 (rV hf hρ)
  · have hf := ifn hq hf
    refine z_iload_n hc d_Sheet_putNumber_4 1 rfl ?_
    refine z_aload_n hc d_Sheet_putNumber_5 0 rfl ?_
    refine gf_Sheet_19 hc d_Sheet_putNumber_6 hv0 ?_
    refine z_icmp_lt (tgt := 13) hc d_Sheet_putNumber_9 (by decide) (fun hq => ?_) (fun hq => ?_)
    · have hf := ifp hq hf
      refine z_aload_n hc d_Sheet_putNumber_13 0 rfl ?_
      refine gf_Sheet_15 hc d_Sheet_putNumber_14 hv0 ?_
      refine z_bipush (v := (iI 8)) hc d_Sheet_putNumber_17 (by decide) ?_
      refine z_icmp_ne (tgt := 35) hc d_Sheet_putNumber_19 (by decide) (fun hq => ?_) (fun hq => ?_)
      · have hf := ifn hq hf
        refine z_aload_n hc d_Sheet_putNumber_35 0 rfl ?_
        refine gf_Sheet_15 hc d_Sheet_putNumber_36 hv0 ?_
        refine z_bipush (v := (iI 16)) hc d_Sheet_putNumber_39 (by decide) ?_
        refine z_icmp_ne (tgt := 57) hc d_Sheet_putNumber_41 (by decide) (fun hq => ?_) (fun hq => ?_)
        · have hf := ifn hq hf
          refine z_aload_n hc d_Sheet_putNumber_57 0 rfl ?_
          refine gf_Sheet_9 hc d_Sheet_putNumber_58 hv0 ?_
          refine z_iload_n hc d_Sheet_putNumber_61 1 rfl ?_
          refine z_lload_n hc d_Sheet_putNumber_62 2 rfl ?_
          obtain ⟨j1, hj2, hf⟩ := bd hf
          refine ast_numbers hc d_Sheet_putNumber_63 hv0 hj2 ?_
          exact z_vret hc d_Sheet_putNumber_64 (rV hf hρ)
        · have hf := ifp hq hf
          refine z_aload_n hc d_Sheet_putNumber_44 0 rfl ?_
          refine gf_Sheet_9 hc d_Sheet_putNumber_45 hv0 ?_
          refine z_iload_n hc d_Sheet_putNumber_48 1 rfl ?_
          refine z_lload_n hc d_Sheet_putNumber_49 2 rfl ?_
          refine z_l2i hc d_Sheet_putNumber_50 ?_
          refine z_i2s hc d_Sheet_putNumber_51 ?_
          refine z_i2l hc d_Sheet_putNumber_52 ?_
          obtain ⟨j3, hj4, hf⟩ := bd hf
          refine ast_numbers hc d_Sheet_putNumber_53 hv0 hj4 ?_
          refine z_goto (tgt := 64) hc d_Sheet_putNumber_54 (by decide) ?_
          exact z_vret hc d_Sheet_putNumber_64 (rV hf hρ)
      · have hf := ifp hq hf
        refine z_aload_n hc d_Sheet_putNumber_22 0 rfl ?_
        refine gf_Sheet_9 hc d_Sheet_putNumber_23 hv0 ?_
        refine z_iload_n hc d_Sheet_putNumber_26 1 rfl ?_
        refine z_lload_n hc d_Sheet_putNumber_27 2 rfl ?_
        refine z_l2i hc d_Sheet_putNumber_28 ?_
        refine z_i2b hc d_Sheet_putNumber_29 ?_
        refine z_i2l hc d_Sheet_putNumber_30 ?_
        obtain ⟨j5, hj6, hf⟩ := bd hf
        refine ast_numbers hc d_Sheet_putNumber_31 hv0 hj6 ?_
        refine z_goto (tgt := 64) hc d_Sheet_putNumber_32 (by decide) ?_
        exact z_vret hc d_Sheet_putNumber_64 (rV hf hρ)
    · have hf := ifn hq hf
      exact z_vret hc d_Sheet_putNumber_12 (rV hf hρ)
def f_Tape_addByte (x1 : Int32) (σ : Sg) : Option (Unit × Sg) :=
  (if (iI 120) ≤ (σ.1 4 0 0 0) then some ((), σ) else Option.bind (rd (σ.1 4 0 0 0) 120) (fun j1 => some ((), upI (upI σ 15 0 0 j1 x1) 4 0 0 0 (((upI σ 15 0 0 j1 x1).1 4 0 0 0) + (iI 1)))))
theorem ok_Tape_addByte (g : Gv) (x1 : Int32) (σ : Sg) (r : Unit × Sg) (hf : f_Tape_addByte x1 σ = some r) : Ok g y_Tape_addByte c_Tape_addByte 2 none 0 [.ref (gAd g (4, 0, 0)), .int x1] σ (none, r.2) := by
  unfold f_Tape_addByte at hf
  refine Ok.of [(0, .ref (gAd g (4, 0, 0))), (1, .int x1)] (by decide) (Nat.le_of_ble_eq_true rfl) rfl ?_
  intro x hc
  have hc : Zc x g c_Tape_addByte R_Tape 2 none 0 := hc
  obtain ⟨ρ, hρ⟩ : ∃ ρ : Option Value × Sg, ρ = (none, r.2) := ⟨_, rfl⟩
  rw [← hρ]
  refine z_aload_n hc d_Tape_addByte_0 0 rfl ?_
  refine gf_Tape_15 hc d_Tape_addByte_1  ?_
  refine z_bipush (v := (iI 120)) hc d_Tape_addByte_4 (by decide) ?_
  refine z_icmp_ge (tgt := 29) hc d_Tape_addByte_6 (by decide) (fun hq => ?_) (fun hq => ?_)
  · have hf := ifp hq hf
    exact z_vret hc d_Tape_addByte_29 (rV hf hρ)
  · have hf := ifn hq hf
    refine z_aload_n hc d_Tape_addByte_9 0 rfl ?_
    refine gf_Tape_9 hc d_Tape_addByte_10  ?_
    refine z_aload_n hc d_Tape_addByte_13 0 rfl ?_
    refine gf_Tape_15 hc d_Tape_addByte_14  ?_
    refine z_iload_n hc d_Tape_addByte_17 1 rfl ?_
    obtain ⟨j1, hj2, hf⟩ := bd hf
    refine ast_bytes hc d_Tape_addByte_18  hj2 ?_
    refine z_aload_n hc d_Tape_addByte_19 0 rfl ?_
    refine z_dup hc d_Tape_addByte_20 rfl ?_
    refine gf_Tape_15 hc d_Tape_addByte_21  ?_
    refine z_iconst (v := (iI 1)) hc d_Tape_addByte_24 (by decide) ?_
    refine z_iadd hc d_Tape_addByte_25 ?_
    refine pf_Tape_15 hc d_Tape_addByte_26  ?_
    exact z_vret hc d_Tape_addByte_29 (rV hf hρ)
theorem vl_World_35 : VL R_World 35 y_Rug_become c_Rug_become 2 none 1 := ⟨tb3 105 (by decide +kernel) (by decide +kernel), tb3 89 (by decide +kernel) (by decide +kernel), tb3 90 (by decide +kernel) (by decide +kernel), tb1 9 (by decide +kernel) (by decide +kernel), k_Rug_become, by decide, by decide, by decide +kernel, by decide⟩
theorem cz_World_35 {x : Cx} {g : Gv} {cc : ByteArray} {nL d pc : Nat} {ret : Option FieldType} {ρ : Option Value × Sg} {L : List (Nat × Value)} {st : List Value} {σ : Sg} (hc : Zc x g cc R_World nL ret d) (hd : decode cc pc = .ok (.invokevirtual 35, 3)) (hdd : 1 ≤ d) {w0 : Nat} {c0 : Nat} {w1 : Nat} {c1 : Nat} (hv0 : okR w0 c0) (hv1 : okR w1 c1) {v : Unit} {σ1 : Sg} (hf : f_Rug_become w0 c0 w1 c1 σ = some (v, σ1)) (hst : (st.map (fun v => v.category)).sum ≤ 8) (k : Z x g nL ρ (pc + 3) L (st) σ1) : Z x g nL ρ pc L (.ref (gAd g (2, w1, c1)) :: .ref (gAd g (2, w0, c0)) :: st) σ := z_callV (ci := 2) (As := [.ref (gAd g (2, w1, c1))]) hc hd vl_World_35 hdd (2, w0, c0) (dm_Rug hv0) rfl rfl (ok_Rug_become g w0 c0 w1 c1 hv0 hv1 σ (v, σ1) hf) rfl rfl hst rfl k
def b_World_become_2 (w0 : Nat) (w1 : Nat) (x2 : Int32) (σ : Sg) : Option ((Int32 × Sg) ⊕ (Sg)) :=
  (if (σ.1 1 w1 0 0) ≤ x2 then some (.inr σ) else Option.bind (rd x2 8) (fun j1 => Option.bind (rd x2 8) (fun j3 => b2 (f_Rug_become w0 j1 w1 j3 σ) (fun v5 σ6 => some (.inl (x2 + (iI 1), σ6))))))
theorem sb_World_become_2 {x : Cx} {g : Gv} {ρ : Option Value × Sg} (hc : Zc x g c_World_become R_World 3 none 1) (w0 : Nat) (w1 : Nat) (hv0 : w0 < 3) (hv1 : w1 < 3) (x2 : Int32) (σ : Sg) (r : (Int32 × Sg) ⊕ (Sg)) (hf : b_World_become_2 w0 w1 x2 σ = some r) (hi : ∀ a', r = .inl a' → Z x g 3 ρ 2 [(0, .ref (gAd g (1, w0, 0))), (1, .ref (gAd g (1, w1, 0))), (2, .int a'.1)] [] a'.2) (he0 : ∀ b, r = .inr b → Z x g 3 ρ 31 [(0, .ref (gAd g (1, w0, 0))), (1, .ref (gAd g (1, w1, 0)))] [] b) : Z x g 3 ρ 2 [(0, .ref (gAd g (1, w0, 0))), (1, .ref (gAd g (1, w1, 0))), (2, .int x2)] [] σ := by
  unfold b_World_become_2 at hf
  refine z_iload_n hc d_World_become_2 2 rfl ?_
  refine z_aload_n hc d_World_become_3 1 rfl ?_
  refine gf_World_31 hc d_World_become_4 hv1 ?_
  refine z_icmp_ge (tgt := 31) hc d_World_become_7 (by decide) (fun hq => ?_) (fun hq => ?_)
  · have hf := ifp hq hf
    refine z_sub [0, 1] (L' := [(0, .ref (gAd g (1, w0, 0))), (1, .ref (gAd g (1, w1, 0)))]) rfl ?_
    exact he0 σ (Option.some.inj hf).symm
  · have hf := ifn hq hf
    refine z_aload_n hc d_World_become_10 0 rfl ?_
    refine gf_World_11 hc d_World_become_11 hv0 ?_
    refine z_iload_n hc d_World_become_14 2 rfl ?_
    obtain ⟨j1, hj2, hf⟩ := bd hf
    refine ald_rugs hc d_World_become_15 hv0 hj2 ?_
    refine z_aload_n hc d_World_become_16 1 rfl ?_
    refine gf_World_11 hc d_World_become_17 hv1 ?_
    refine z_iload_n hc d_World_become_20 2 rfl ?_
    obtain ⟨j3, hj4, hf⟩ := bd hf
    refine ald_rugs hc d_World_become_21 hv1 hj4 ?_
    obtain ⟨v5, σ6, h7, hf⟩ := bd2 hf
    refine cz_World_35 hc d_World_become_22 (by decide) (okR_of hv0 (rd_lt hj2)) (okR_of hv1 (rd_lt hj4)) h7 (Nat.le_of_ble_eq_true rfl) ?_
    refine z_iinc (v := x2 + (iI 1)) (L' := [(2, .int (x2 + (iI 1))), (0, .ref (gAd g (1, w0, 0))), (1, .ref (gAd g (1, w1, 0)))]) hc d_World_become_25 2 rfl rfl (by decide) rfl ?_
    refine z_goto (tgt := 2) hc d_World_become_28 (by decide) ?_
    refine z_sub [1, 2, 0] (L' := [(0, .ref (gAd g (1, w0, 0))), (1, .ref (gAd g (1, w1, 0))), (2, .int (x2 + (iI 1)))]) rfl ?_
    exact hi (x2 + (iI 1), σ6) (Option.some.inj hf).symm
def f_World_become (w0 : Nat) (w1 : Nat) (σ : Sg) : Option (Unit × Sg) :=
  Option.bind (lp (fun a => b_World_become_2 w0 w1 a.1 a.2) FU ((iI 0), σ)) (fun b12 => Option.bind (cpOk (iI 0) (iI 0) (iI 7) 7 7) (fun q10 => some ((), upI (upI (upI (roI b12 12 w0 0 (va_cpy (b12.1 12 w1 0) (b12.1 12 w0 0) q10.1 q10.2.1 q10.2.2)) 1 w0 0 0 ((roI b12 12 w0 0 (va_cpy (b12.1 12 w1 0) (b12.1 12 w0 0) q10.1 q10.2.1 q10.2.2)).1 1 w1 0 0)) 1 w0 0 1 ((upI (roI b12 12 w0 0 (va_cpy (b12.1 12 w1 0) (b12.1 12 w0 0) q10.1 q10.2.1 q10.2.2)) 1 w0 0 0 ((roI b12 12 w0 0 (va_cpy (b12.1 12 w1 0) (b12.1 12 w0 0) q10.1 q10.2.1 q10.2.2)).1 1 w1 0 0)).1 1 w1 0 1)) 1 w0 0 2 ((upI (upI (roI b12 12 w0 0 (va_cpy (b12.1 12 w1 0) (b12.1 12 w0 0) q10.1 q10.2.1 q10.2.2)) 1 w0 0 0 ((roI b12 12 w0 0 (va_cpy (b12.1 12 w1 0) (b12.1 12 w0 0) q10.1 q10.2.1 q10.2.2)).1 1 w1 0 0)) 1 w0 0 1 ((upI (roI b12 12 w0 0 (va_cpy (b12.1 12 w1 0) (b12.1 12 w0 0) q10.1 q10.2.1 q10.2.2)) 1 w0 0 0 ((roI b12 12 w0 0 (va_cpy (b12.1 12 w1 0) (b12.1 12 w0 0) q10.1 q10.2.1 q10.2.2)).1 1 w1 0 0)).1 1 w1 0 1)).1 1 w1 0 2))))
theorem ok_World_become (g : Gv) (w0 : Nat) (w1 : Nat) (hv0 : w0 < 3) (hv1 : w1 < 3) (σ : Sg) (r : Unit × Sg) (hf : f_World_become w0 w1 σ = some r) : Ok g y_World_become c_World_become 3 none 1 [.ref (gAd g (1, w0, 0)), .ref (gAd g (1, w1, 0))] σ (none, r.2) := by
  unfold f_World_become at hf
  refine Ok.of [(0, .ref (gAd g (1, w0, 0))), (1, .ref (gAd g (1, w1, 0)))] (by decide) (Nat.le_of_ble_eq_true rfl) rfl ?_
  intro x hc
  have hc : Zc x g c_World_become R_World 3 none 1 := hc
  obtain ⟨ρ, hρ⟩ : ∃ ρ : Option Value × Sg, ρ = (none, r.2) := ⟨_, rfl⟩
  rw [← hρ]
  refine z_iconst (v := (iI 0)) hc d_World_become_0 (by decide) ?_
  refine z_istore_n (L' := [(2, .int (iI 0)), (0, .ref (gAd g (1, w0, 0))), (1, .ref (gAd g (1, w1, 0)))]) hc d_World_become_1 (by decide) rfl ?_
  refine z_sub [1, 2, 0] (L' := [(0, .ref (gAd g (1, w0, 0))), (1, .ref (gAd g (1, w1, 0))), (2, .int (iI 0))]) rfl ?_
  obtain ⟨σ9, hl13, hf⟩ := bd hf
  try dsimp only at hf
  refine lp_walk (α := (Int32 × Sg)) (β := (Sg)) (body := (fun a : (Int32 × Sg) => b_World_become_2 w0 w1 a.1 a.2)) (In := (fun a : (Int32 × Sg) => Z x g 3 ρ 2 [(0, .ref (gAd g (1, w0, 0))), (1, .ref (gAd g (1, w1, 0))), (2, .int a.1)] [] a.2)) (Out := (fun b => Z x g 3 ρ 31 [(0, .ref (gAd g (1, w0, 0))), (1, .ref (gAd g (1, w1, 0)))] [] b)) (fun a r hb hi ho => sb_World_become_2 hc w0 w1 hv0 hv1 a.1 a.2 r hb hi (fun b e => ho _ e)) FU ((iI 0), σ) _ hl13 ?_
  refine z_aload_n hc d_World_become_31 1 rfl ?_
  refine gf_World_20 hc d_World_become_32 hv1 ?_
  refine z_iconst (v := (iI 0)) hc d_World_become_35 (by decide) ?_
  refine z_aload_n hc d_World_become_36 0 rfl ?_
  refine gf_World_20 hc d_World_become_37 hv0 ?_
  refine z_iconst (v := (iI 0)) hc d_World_become_40 (by decide) ?_
  refine z_bipush (v := (iI 7)) hc d_World_become_41 (by decide) ?_
  obtain ⟨q10, hq11, hf⟩ := bd hf
  refine cp_rain hc d_World_become_43 al_World_39 (by decide) (Nat.le_of_ble_eq_true rfl) hv1 hv0 hq11 ?_
  refine z_aload_n hc d_World_become_46 0 rfl ?_
  refine z_aload_n hc d_World_become_47 1 rfl ?_
  refine gf_World_31 hc d_World_become_48 hv1 ?_
  refine pf_World_31 hc d_World_become_51 hv0 ?_
  refine z_aload_n hc d_World_become_54 0 rfl ?_
  refine z_aload_n hc d_World_become_55 1 rfl ?_
  refine gf_World_45 hc d_World_become_56 hv1 ?_
  refine pf_World_45 hc d_World_become_59 hv0 ?_
  refine z_aload_n hc d_World_become_62 0 rfl ?_
  refine z_aload_n hc d_World_become_63 1 rfl ?_
  refine gf_World_48 hc d_World_become_64 hv1 ?_
  refine pf_World_48 hc d_World_become_67 hv0 ?_
  exact z_vret hc d_World_become_70 (rV hf hρ)
def f_Math_floorMod_7cf53 (x0 : Int32) (x1 : Int32) (σ : Sg) : Option (Int32 × Sg) :=
  (if x1 = 0 then none else (if (iI 0) ≤ (x0 ^^^ x1) then some (x0 - x0 / x1 * x1, σ) else (if (x0 - x0 / x1 * x1) = (iI 0) then some (x0 - x0 / x1 * x1, σ) else some ((x0 - x0 / x1 * x1) + x1, σ))))
theorem ok_Math_floorMod_7cf53 (g : Gv) (x0 : Int32) (x1 : Int32) (σ : Sg) (r : Int32 × Sg) (hf : f_Math_floorMod_7cf53 x0 x1 σ = some r) : Ok g y_Math_floorMod_7cf53 c_Math_floorMod_7cf53 3 (some .int) 0 [.int x0, .int x1] σ (some (.int r.1), r.2) := by
  unfold f_Math_floorMod_7cf53 at hf
  refine Ok.ofF [(0, .int x0), (1, .int x1)] (by decide +kernel) (Nat.le_of_ble_eq_true rfl) rfl ?_
  intro x hc
  have hc : Zc x g c_Math_floorMod_7cf53 R_Math 3 (some .int) 0 := hc
  obtain ⟨ρ, hρ⟩ : ∃ ρ : Option Value × Sg, ρ = (some (.int r.1), r.2) := ⟨_, rfl⟩
  rw [← hρ]
  refine z_iload_n hc d_Math_floorMod_7cf53_0 0 rfl ?_
  refine z_iload_n hc d_Math_floorMod_7cf53_1 1 rfl ?_
  have hz : ¬ x1 = 0 := fun z => ifnn z hf
  have hf := ifn hz hf
  refine z_irem hc d_Math_floorMod_7cf53_2 hz ?_
  refine z_istore_n (L' := [(2, .int (x0 - x0 / x1 * x1)), (0, .int x0), (1, .int x1)]) hc d_Math_floorMod_7cf53_3 (by decide) rfl ?_
  refine z_iload_n hc d_Math_floorMod_7cf53_4 1 rfl ?_
  refine z_iload_n hc d_Math_floorMod_7cf53_5 2 rfl ?_
  refine z_ixor hc d_Math_floorMod_7cf53_6 ?_
  refine z_if_ge (tgt := 18) hc d_Math_floorMod_7cf53_7 (by decide) (fun hq => ?_) (fun hq => ?_)
  · have hf := ifp hq hf
    refine z_iload_n hc d_Math_floorMod_7cf53_18 0 rfl ?_
    exact z_iret hc d_Math_floorMod_7cf53_19 (rI hf hρ)
  · have hf := ifn hq hf
    refine z_iload_n hc d_Math_floorMod_7cf53_10 0 rfl ?_
    refine z_if_eq (tgt := 18) hc d_Math_floorMod_7cf53_11 (by decide) (fun hq => ?_) (fun hq => ?_)
    · have hf := ifp hq hf
      refine z_iload_n hc d_Math_floorMod_7cf53_18 0 rfl ?_
      exact z_iret hc d_Math_floorMod_7cf53_19 (rI hf hρ)
    · have hf := ifn hq hf
      refine z_iload_n hc d_Math_floorMod_7cf53_14 0 rfl ?_
      refine z_iload_n hc d_Math_floorMod_7cf53_15 2 rfl ?_
      refine z_iadd hc d_Math_floorMod_7cf53_16 ?_
      exact z_iret hc d_Math_floorMod_7cf53_17 (rI hf hρ)
theorem vl_World_68 : SL R_World 68 y_Math_floorMod_7cf53 c_Math_floorMod_7cf53 3 (some .int) 2 := ⟨tb2 150 (by decide +kernel) (by decide +kernel), tb2 151 (by decide +kernel) (by decide +kernel), tb1 13 (by decide +kernel) (by decide +kernel), k_Math_floorMod_7cf53, by decide, by decide, by decide +kernel, by decide⟩
theorem cz_World_68 {x : Cx} {g : Gv} {cc : ByteArray} {nL d pc : Nat} {ret : Option FieldType} {ρ : Option Value × Sg} {L : List (Nat × Value)} {st : List Value} {σ : Sg} (hc : Zc x g cc R_World nL ret d) (hd : decode cc pc = .ok (.invokestatic 68, 3)) (hdd : 1 ≤ d) {x0 : Int32} {x1 : Int32} {v : Int32} {σ1 : Sg} (hf : f_Math_floorMod_7cf53 x0 x1 σ = some (v, σ1)) (hst : (st.map (fun v => v.category)).sum ≤ 8) (k : Z x g nL ρ (pc + 3) L (.int v :: st) σ1) : Z x g nL ρ pc L (.int x1 :: .int x0 :: st) σ := z_callS (As := [.int x0, .int x1]) hc hd vl_World_68 hdd (ok_Math_floorMod_7cf53 g x0 x1 σ (v, σ1) hf) rfl rfl hst rfl k
def f_World_wetAhead (w0 : Nat) (x1 : Int32) (σ : Sg) : Option (Int32 × Sg) :=
  b2 (f_Math_floorMod_7cf53 ((σ.1 1 w0 0 1) + x1) (iI 7) σ) (fun v1 σ2 => Option.bind (rd v1 7) (fun j4 => some (σ2.1 12 w0 0 j4, σ2)))
theorem ok_World_wetAhead (g : Gv) (w0 : Nat) (x1 : Int32) (hv0 : w0 < 3) (σ : Sg) (r : Int32 × Sg) (hf : f_World_wetAhead w0 x1 σ = some r) : Ok g y_World_wetAhead c_World_wetAhead 2 (some .int) 1 [.ref (gAd g (1, w0, 0)), .int x1] σ (some (.int r.1), r.2) := by
  unfold f_World_wetAhead at hf
  refine Ok.of [(0, .ref (gAd g (1, w0, 0))), (1, .int x1)] (by decide) (Nat.le_of_ble_eq_true rfl) rfl ?_
  intro x hc
  have hc : Zc x g c_World_wetAhead R_World 2 (some .int) 1 := hc
  obtain ⟨ρ, hρ⟩ : ∃ ρ : Option Value × Sg, ρ = (some (.int r.1), r.2) := ⟨_, rfl⟩
  rw [← hρ]
  refine z_aload_n hc d_World_wetAhead_0 0 rfl ?_
  refine gf_World_20 hc d_World_wetAhead_1 hv0 ?_
  refine z_aload_n hc d_World_wetAhead_4 0 rfl ?_
  refine gf_World_45 hc d_World_wetAhead_5 hv0 ?_
  refine z_iload_n hc d_World_wetAhead_8 1 rfl ?_
  refine z_iadd hc d_World_wetAhead_9 ?_
  refine z_bipush (v := (iI 7)) hc d_World_wetAhead_10 (by decide) ?_
  obtain ⟨v1, σ2, h3, hf⟩ := bd2 hf
  refine cz_World_68 hc d_World_wetAhead_12 (by decide)  h3 (Nat.le_of_ble_eq_true rfl) ?_
  obtain ⟨j4, hj5, hf⟩ := bd hf
  refine ald_rain hc d_World_wetAhead_15 hv0 hj5 ?_
  exact z_iret hc d_World_wetAhead_16 (rI hf hρ)
theorem vl_World_71 : VL R_World 71 y_World_wetAhead c_World_wetAhead 2 (some .int) 1 := ⟨tb3 76 (by decide +kernel) (by decide +kernel), tb2 147 (by decide +kernel) (by decide +kernel), tb2 148 (by decide +kernel) (by decide +kernel), tb1 8 (by decide +kernel) (by decide +kernel), k_World_wetAhead, by decide, by decide, by decide +kernel, by decide⟩
theorem cz_World_71 {x : Cx} {g : Gv} {cc : ByteArray} {nL d pc : Nat} {ret : Option FieldType} {ρ : Option Value × Sg} {L : List (Nat × Value)} {st : List Value} {σ : Sg} (hc : Zc x g cc R_World nL ret d) (hd : decode cc pc = .ok (.invokevirtual 71, 3)) (hdd : 2 ≤ d) {w0 : Nat} {x1 : Int32} (hv0 : w0 < 3) {v : Int32} {σ1 : Sg} (hf : f_World_wetAhead w0 x1 σ = some (v, σ1)) (hst : (st.map (fun v => v.category)).sum ≤ 8) (k : Z x g nL ρ (pc + 3) L (.int v :: st) σ1) : Z x g nL ρ pc L (.int x1 :: .ref (gAd g (1, w0, 0)) :: st) σ := z_callV (ci := 9) (As := [.int x1]) hc hd vl_World_71 hdd (1, w0, 0) (dm_World hv0) rfl rfl (ok_World_wetAhead g w0 x1 hv0 σ (v, σ1) hf) rfl rfl hst rfl k
theorem vl_World_75 : VL R_World 75 y_Rug_passDay c_Rug_passDay 2 none 1 := ⟨tb3 77 (by decide +kernel) (by decide +kernel), tb3 78 (by decide +kernel) (by decide +kernel), tb3 79 (by decide +kernel) (by decide +kernel), tb1 9 (by decide +kernel) (by decide +kernel), k_Rug_passDay, by decide, by decide, by decide +kernel, by decide⟩
theorem cz_World_75 {x : Cx} {g : Gv} {cc : ByteArray} {nL d pc : Nat} {ret : Option FieldType} {ρ : Option Value × Sg} {L : List (Nat × Value)} {st : List Value} {σ : Sg} (hc : Zc x g cc R_World nL ret d) (hd : decode cc pc = .ok (.invokevirtual 75, 3)) (hdd : 4 ≤ d) {w0 : Nat} {c0 : Nat} {x1 : Int32} (hv0 : okR w0 c0) {v : Unit} {σ1 : Sg} (hf : f_Rug_passDay w0 c0 x1 σ = some (v, σ1)) (hst : (st.map (fun v => v.category)).sum ≤ 8) (k : Z x g nL ρ (pc + 3) L (st) σ1) : Z x g nL ρ pc L (.int x1 :: .ref (gAd g (2, w0, c0)) :: st) σ := z_callV (ci := 2) (As := [.int x1]) hc hd vl_World_75 hdd (2, w0, c0) (dm_Rug hv0) rfl rfl (ok_Rug_passDay g w0 c0 x1 hv0 σ (v, σ1) hf) rfl rfl hst rfl k
def b_World_passDays_16 (w0 : Nat) (x1 : Int32) (x2 : Int32) (x3 : Int32) (x4 : Int32) (σ : Sg) : Option ((Int32 × Sg) ⊕ (Sg)) :=
  (if (σ.1 1 w0 0 0) ≤ x4 then some (.inr σ) else Option.bind (rd x4 8) (fun j4 => b2 (f_Rug_passDay w0 j4 x3 σ) (fun v6 σ7 => some (.inl (x4 + (iI 1), σ7)))))
theorem sb_World_passDays_16 {x : Cx} {g : Gv} {ρ : Option Value × Sg} (hc : Zc x g c_World_passDays R_World 5 none 4) (w0 : Nat) (x1 : Int32) (x2 : Int32) (x3 : Int32) (hv0 : w0 < 3) (x4 : Int32) (σ : Sg) (r : (Int32 × Sg) ⊕ (Sg)) (hf : b_World_passDays_16 w0 x1 x2 x3 x4 σ = some r) (hi : ∀ a', r = .inl a' → Z x g 5 ρ 16 [(0, .ref (gAd g (1, w0, 0))), (1, .int x1), (2, .int x2), (3, .int x3), (4, .int a'.1)] [] a'.2) (he0 : ∀ b, r = .inr b → Z x g 5 ρ 42 [(0, .ref (gAd g (1, w0, 0))), (1, .int x1), (2, .int x2)] [] b) : Z x g 5 ρ 16 [(0, .ref (gAd g (1, w0, 0))), (1, .int x1), (2, .int x2), (3, .int x3), (4, .int x4)] [] σ := by
  unfold b_World_passDays_16 at hf
  refine z_iload hc d_World_passDays_16 4 rfl ?_
  refine z_aload_n hc d_World_passDays_18 0 rfl ?_
  refine gf_World_31 hc d_World_passDays_19 hv0 ?_
  refine z_icmp_ge (tgt := 42) hc d_World_passDays_22 (by decide) (fun hq => ?_) (fun hq => ?_)
  · have hf := ifp hq hf
    refine z_sub [0, 1, 2] (L' := [(0, .ref (gAd g (1, w0, 0))), (1, .int x1), (2, .int x2)]) rfl ?_
    exact he0 σ (Option.some.inj hf).symm
  · have hf := ifn hq hf
    refine z_aload_n hc d_World_passDays_25 0 rfl ?_
    refine gf_World_11 hc d_World_passDays_26 hv0 ?_
    refine z_iload hc d_World_passDays_29 4 rfl ?_
    obtain ⟨j4, hj5, hf⟩ := bd hf
    refine ald_rugs hc d_World_passDays_31 hv0 hj5 ?_
    refine z_iload_n hc d_World_passDays_32 3 rfl ?_
    obtain ⟨v6, σ7, h8, hf⟩ := bd2 hf
    refine cz_World_75 hc d_World_passDays_33 (by decide) (okR_of hv0 (rd_lt hj5)) h8 (Nat.le_of_ble_eq_true rfl) ?_
    refine z_iinc (v := x4 + (iI 1)) (L' := [(4, .int (x4 + (iI 1))), (0, .ref (gAd g (1, w0, 0))), (1, .int x1), (2, .int x2), (3, .int x3)]) hc d_World_passDays_36 4 rfl rfl (by decide) rfl ?_
    refine z_goto (tgt := 16) hc d_World_passDays_39 (by decide) ?_
    refine z_sub [1, 2, 3, 4, 0] (L' := [(0, .ref (gAd g (1, w0, 0))), (1, .int x1), (2, .int x2), (3, .int x3), (4, .int (x4 + (iI 1)))]) rfl ?_
    exact hi (x4 + (iI 1), σ7) (Option.some.inj hf).symm
def b_World_passDays_2 (w0 : Nat) (x1 : Int32) (x2 : Int32) (σ : Sg) : Option ((Int32 × Sg) ⊕ (Sg)) :=
  (if x1 ≤ x2 then some (.inr σ) else b2 (f_World_wetAhead w0 (iI 0) σ) (fun v1 σ2 => Option.bind (lp (fun a => b_World_passDays_16 w0 x1 x2 v1 a.1 a.2) FU ((iI 0), σ2)) (fun b11 => some (.inl (x2 + (iI 1), upI b11 1 w0 0 1 ((b11.1 1 w0 0 1) + (iI 1)))))))
theorem sb_World_passDays_2 {x : Cx} {g : Gv} {ρ : Option Value × Sg} (hc : Zc x g c_World_passDays R_World 5 none 4) (w0 : Nat) (x1 : Int32) (hv0 : w0 < 3) (x2 : Int32) (σ : Sg) (r : (Int32 × Sg) ⊕ (Sg)) (hf : b_World_passDays_2 w0 x1 x2 σ = some r) (hi : ∀ a', r = .inl a' → Z x g 5 ρ 2 [(0, .ref (gAd g (1, w0, 0))), (1, .int x1), (2, .int a'.1)] [] a'.2) (he0 : ∀ b, r = .inr b → Z x g 5 ρ 58 [] [] b) : Z x g 5 ρ 2 [(0, .ref (gAd g (1, w0, 0))), (1, .int x1), (2, .int x2)] [] σ := by
  unfold b_World_passDays_2 at hf
  refine z_iload_n hc d_World_passDays_2 2 rfl ?_
  refine z_iload_n hc d_World_passDays_3 1 rfl ?_
  refine z_icmp_ge (tgt := 58) hc d_World_passDays_4 (by decide) (fun hq => ?_) (fun hq => ?_)
  · have hf := ifp hq hf
    refine z_sub [] (L' := []) rfl ?_
    exact he0 σ (Option.some.inj hf).symm
  · have hf := ifn hq hf
    refine z_aload_n hc d_World_passDays_7 0 rfl ?_
    refine z_iconst (v := (iI 0)) hc d_World_passDays_8 (by decide) ?_
    obtain ⟨v1, σ2, h3, hf⟩ := bd2 hf
    refine cz_World_71 hc d_World_passDays_9 (by decide) hv0 h3 (Nat.le_of_ble_eq_true rfl) ?_
    refine z_istore_n (L' := [(3, .int v1), (0, .ref (gAd g (1, w0, 0))), (1, .int x1), (2, .int x2)]) hc d_World_passDays_12 (by decide) rfl ?_
    refine z_iconst (v := (iI 0)) hc d_World_passDays_13 (by decide) ?_
    refine z_istore (L' := [(4, .int (iI 0)), (3, .int v1), (0, .ref (gAd g (1, w0, 0))), (1, .int x1), (2, .int x2)]) hc d_World_passDays_14 (by decide) rfl ?_
    refine z_sub [2, 3, 4, 1, 0] (L' := [(0, .ref (gAd g (1, w0, 0))), (1, .int x1), (2, .int x2), (3, .int v1), (4, .int (iI 0))]) rfl ?_
    obtain ⟨σ10, hl12, hf⟩ := bd hf
    try dsimp only at hf
    refine lp_walk (α := (Int32 × Sg)) (β := (Sg)) (body := (fun a : (Int32 × Sg) => b_World_passDays_16 w0 x1 x2 v1 a.1 a.2)) (In := (fun a : (Int32 × Sg) => Z x g 5 ρ 16 [(0, .ref (gAd g (1, w0, 0))), (1, .int x1), (2, .int x2), (3, .int v1), (4, .int a.1)] [] a.2)) (Out := (fun b => Z x g 5 ρ 42 [(0, .ref (gAd g (1, w0, 0))), (1, .int x1), (2, .int x2)] [] b)) (fun a r hb hi ho => sb_World_passDays_16 hc w0 x1 x2 v1 hv0 a.1 a.2 r hb hi (fun b e => ho _ e)) FU ((iI 0), σ2) _ hl12 ?_
    refine z_aload_n hc d_World_passDays_42 0 rfl ?_
    refine z_dup hc d_World_passDays_43 rfl ?_
    refine gf_World_45 hc d_World_passDays_44 hv0 ?_
    refine z_iconst (v := (iI 1)) hc d_World_passDays_47 (by decide) ?_
    refine z_iadd hc d_World_passDays_48 ?_
    refine pf_World_45 hc d_World_passDays_49 hv0 ?_
    refine z_iinc (v := x2 + (iI 1)) (L' := [(2, .int (x2 + (iI 1))), (0, .ref (gAd g (1, w0, 0))), (1, .int x1)]) hc d_World_passDays_52 2 rfl rfl (by decide) rfl ?_
    refine z_goto (tgt := 2) hc d_World_passDays_55 (by decide) ?_
    refine z_sub [1, 2, 0] (L' := [(0, .ref (gAd g (1, w0, 0))), (1, .int x1), (2, .int (x2 + (iI 1)))]) rfl ?_
    exact hi (x2 + (iI 1), upI σ10 1 w0 0 1 ((σ10.1 1 w0 0 1) + (iI 1))) (Option.some.inj hf).symm
def f_World_passDays (w0 : Nat) (x1 : Int32) (σ : Sg) : Option (Unit × Sg) :=
  Option.bind (lp (fun a => b_World_passDays_2 w0 x1 a.1 a.2) FU ((iI 0), σ)) (fun b15 => some ((), b15))
theorem ok_World_passDays (g : Gv) (w0 : Nat) (x1 : Int32) (hv0 : w0 < 3) (σ : Sg) (r : Unit × Sg) (hf : f_World_passDays w0 x1 σ = some r) : Ok g y_World_passDays c_World_passDays 5 none 4 [.ref (gAd g (1, w0, 0)), .int x1] σ (none, r.2) := by
  unfold f_World_passDays at hf
  refine Ok.of [(0, .ref (gAd g (1, w0, 0))), (1, .int x1)] (by decide) (Nat.le_of_ble_eq_true rfl) rfl ?_
  intro x hc
  have hc : Zc x g c_World_passDays R_World 5 none 4 := hc
  obtain ⟨ρ, hρ⟩ : ∃ ρ : Option Value × Sg, ρ = (none, r.2) := ⟨_, rfl⟩
  rw [← hρ]
  refine z_iconst (v := (iI 0)) hc d_World_passDays_0 (by decide) ?_
  refine z_istore_n (L' := [(2, .int (iI 0)), (0, .ref (gAd g (1, w0, 0))), (1, .int x1)]) hc d_World_passDays_1 (by decide) rfl ?_
  refine z_sub [1, 2, 0] (L' := [(0, .ref (gAd g (1, w0, 0))), (1, .int x1), (2, .int (iI 0))]) rfl ?_
  obtain ⟨σ14, hl16, hf⟩ := bd hf
  try dsimp only at hf
  refine lp_walk (α := (Int32 × Sg)) (β := (Sg)) (body := (fun a : (Int32 × Sg) => b_World_passDays_2 w0 x1 a.1 a.2)) (In := (fun a : (Int32 × Sg) => Z x g 5 ρ 2 [(0, .ref (gAd g (1, w0, 0))), (1, .int x1), (2, .int a.1)] [] a.2)) (Out := (fun b => Z x g 5 ρ 58 [] [] b)) (fun a r hb hi ho => sb_World_passDays_2 hc w0 x1 hv0 a.1 a.2 r hb hi (fun b e => ho _ e)) FU ((iI 0), σ) _ hl16 ?_
  exact z_vret hc d_World_passDays_58 (rV hf hρ)
theorem vl_World_79 : VL R_World 79 y_Rug_covers c_Rug_covers 2 (some .boolean) 1 := ⟨tb2 56 (by decide +kernel) (by decide +kernel), tb2 57 (by decide +kernel) (by decide +kernel), tb2 58 (by decide +kernel) (by decide +kernel), tb1 9 (by decide +kernel) (by decide +kernel), k_Rug_covers, by decide, by decide, by decide +kernel, by decide⟩
theorem cz_World_79 {x : Cx} {g : Gv} {cc : ByteArray} {nL d pc : Nat} {ret : Option FieldType} {ρ : Option Value × Sg} {L : List (Nat × Value)} {st : List Value} {σ : Sg} (hc : Zc x g cc R_World nL ret d) (hd : decode cc pc = .ok (.invokevirtual 79, 3)) (hdd : 4 ≤ d) {w0 : Nat} {c0 : Nat} {x1 : Int32} (hv0 : okR w0 c0) {v : Int32} {σ1 : Sg} (hf : f_Rug_covers w0 c0 x1 σ = some (v, σ1)) (hst : (st.map (fun v => v.category)).sum ≤ 8) (k : Z x g nL ρ (pc + 3) L (.int v :: st) σ1) : Z x g nL ρ pc L (.int x1 :: .ref (gAd g (2, w0, c0)) :: st) σ := z_callV (ci := 2) (As := [.int x1]) hc hd vl_World_79 hdd (2, w0, c0) (dm_Rug hv0) rfl rfl (ok_Rug_covers g w0 c0 x1 hv0 σ (v, σ1) hf) rfl rfl hst rfl k
def b_World_topAt_4 (w0 : Nat) (x1 : Int32) (x2 : Int32) (x3 : Int32) (σ : Sg) : Option ((Int32 × Int32 × Sg) ⊕ (Int32 × Sg)) :=
  (if (σ.1 1 w0 0 0) ≤ x3 then some (.inr (x2, σ)) else Option.bind (rd x3 8) (fun j1 => b2 (f_Rug_covers w0 j1 x1 σ) (fun v3 σ4 => (if v3 = (iI 0) then some (.inl (x2, x3 + (iI 1), σ4)) else (if x2 < (iI 0) then some (.inl (x3, x3 + (iI 1), σ4)) else Option.bind (rd x3 8) (fun j6 => Option.bind (rd x2 8) (fun j8 => (if (σ4.1 2 w0 j6 6) ≤ (σ4.1 2 w0 j8 6) then some (.inl (x2, x3 + (iI 1), σ4)) else some (.inl (x3, x3 + (iI 1), σ4))))))))))
theorem sb_World_topAt_4 {x : Cx} {g : Gv} {ρ : Option Value × Sg} (hc : Zc x g c_World_topAt R_World 4 (some .int) 4) (w0 : Nat) (x1 : Int32) (hv0 : w0 < 3) (x2 : Int32) (x3 : Int32) (σ : Sg) (r : (Int32 × Int32 × Sg) ⊕ (Int32 × Sg)) (hf : b_World_topAt_4 w0 x1 x2 x3 σ = some r) (hi : ∀ a', r = .inl a' → Z x g 4 ρ 4 [(0, .ref (gAd g (1, w0, 0))), (1, .int x1), (2, .int a'.1), (3, .int a'.2.1)] [] a'.2.2) (he0 : ∀ b, r = .inr b → Z x g 4 ρ 58 [(2, .int b.1)] [] b.2) : Z x g 4 ρ 4 [(0, .ref (gAd g (1, w0, 0))), (1, .int x1), (2, .int x2), (3, .int x3)] [] σ := by
  unfold b_World_topAt_4 at hf
  refine z_iload_n hc d_World_topAt_4 3 rfl ?_
  refine z_aload_n hc d_World_topAt_5 0 rfl ?_
  refine gf_World_31 hc d_World_topAt_6 hv0 ?_
  refine z_icmp_ge (tgt := 58) hc d_World_topAt_9 (by decide) (fun hq => ?_) (fun hq => ?_)
  · have hf := ifp hq hf
    refine z_sub [2] (L' := [(2, .int x2)]) rfl ?_
    exact he0 (x2, σ) (Option.some.inj hf).symm
  · have hf := ifn hq hf
    refine z_aload_n hc d_World_topAt_12 0 rfl ?_
    refine gf_World_11 hc d_World_topAt_13 hv0 ?_
    refine z_iload_n hc d_World_topAt_16 3 rfl ?_
    obtain ⟨j1, hj2, hf⟩ := bd hf
    refine ald_rugs hc d_World_topAt_17 hv0 hj2 ?_
    refine z_iload_n hc d_World_topAt_18 1 rfl ?_
    obtain ⟨v3, σ4, h5, hf⟩ := bd2 hf
    refine cz_World_79 hc d_World_topAt_19 (by decide) (okR_of hv0 (rd_lt hj2)) h5 (Nat.le_of_ble_eq_true rfl) ?_
    refine z_if_eq (tgt := 52) hc d_World_topAt_22 (by decide) (fun hq => ?_) (fun hq => ?_)
    · have hf := ifp hq hf
      refine z_iinc (v := x3 + (iI 1)) (L' := [(3, .int (x3 + (iI 1))), (0, .ref (gAd g (1, w0, 0))), (1, .int x1), (2, .int x2)]) hc d_World_topAt_52 3 rfl rfl (by decide) rfl ?_
      refine z_goto (tgt := 4) hc d_World_topAt_55 (by decide) ?_
      refine z_sub [1, 2, 3, 0] (L' := [(0, .ref (gAd g (1, w0, 0))), (1, .int x1), (2, .int x2), (3, .int (x3 + (iI 1)))]) rfl ?_
      exact hi (x2, x3 + (iI 1), σ4) (Option.some.inj hf).symm
    · have hf := ifn hq hf
      refine z_iload_n hc d_World_topAt_25 2 rfl ?_
      refine z_if_lt (tgt := 50) hc d_World_topAt_26 (by decide) (fun hq => ?_) (fun hq => ?_)
      · have hf := ifp hq hf
        refine z_iload_n hc d_World_topAt_50 3 rfl ?_
        refine z_istore_n (L' := [(2, .int x3), (0, .ref (gAd g (1, w0, 0))), (1, .int x1), (3, .int x3)]) hc d_World_topAt_51 (by decide) rfl ?_
        refine z_iinc (v := x3 + (iI 1)) (L' := [(3, .int (x3 + (iI 1))), (2, .int x3), (0, .ref (gAd g (1, w0, 0))), (1, .int x1)]) hc d_World_topAt_52 3 rfl rfl (by decide) rfl ?_
        refine z_goto (tgt := 4) hc d_World_topAt_55 (by decide) ?_
        refine z_sub [2, 3, 1, 0] (L' := [(0, .ref (gAd g (1, w0, 0))), (1, .int x1), (2, .int x3), (3, .int (x3 + (iI 1)))]) rfl ?_
        exact hi (x3, x3 + (iI 1), σ4) (Option.some.inj hf).symm
      · have hf := ifn hq hf
        refine z_aload_n hc d_World_topAt_29 0 rfl ?_
        refine gf_World_11 hc d_World_topAt_30 hv0 ?_
        refine z_iload_n hc d_World_topAt_33 3 rfl ?_
        obtain ⟨j6, hj7, hf⟩ := bd hf
        refine ald_rugs hc d_World_topAt_34 hv0 hj7 ?_
        refine gf_World_62 hc d_World_topAt_35 (okR_of hv0 (rd_lt hj7)) ?_
        refine z_aload_n hc d_World_topAt_38 0 rfl ?_
        refine gf_World_11 hc d_World_topAt_39 hv0 ?_
        refine z_iload_n hc d_World_topAt_42 2 rfl ?_
        obtain ⟨j8, hj9, hf⟩ := bd hf
        refine ald_rugs hc d_World_topAt_43 hv0 hj9 ?_
        refine gf_World_62 hc d_World_topAt_44 (okR_of hv0 (rd_lt hj9)) ?_
        refine z_icmp_le (tgt := 52) hc d_World_topAt_47 (by decide) (fun hq => ?_) (fun hq => ?_)
        · have hf := ifp hq hf
          refine z_iinc (v := x3 + (iI 1)) (L' := [(3, .int (x3 + (iI 1))), (0, .ref (gAd g (1, w0, 0))), (1, .int x1), (2, .int x2)]) hc d_World_topAt_52 3 rfl rfl (by decide) rfl ?_
          refine z_goto (tgt := 4) hc d_World_topAt_55 (by decide) ?_
          refine z_sub [1, 2, 3, 0] (L' := [(0, .ref (gAd g (1, w0, 0))), (1, .int x1), (2, .int x2), (3, .int (x3 + (iI 1)))]) rfl ?_
          exact hi (x2, x3 + (iI 1), σ4) (Option.some.inj hf).symm
        · have hf := ifn hq hf
          refine z_iload_n hc d_World_topAt_50 3 rfl ?_
          refine z_istore_n (L' := [(2, .int x3), (0, .ref (gAd g (1, w0, 0))), (1, .int x1), (3, .int x3)]) hc d_World_topAt_51 (by decide) rfl ?_
          refine z_iinc (v := x3 + (iI 1)) (L' := [(3, .int (x3 + (iI 1))), (2, .int x3), (0, .ref (gAd g (1, w0, 0))), (1, .int x1)]) hc d_World_topAt_52 3 rfl rfl (by decide) rfl ?_
          refine z_goto (tgt := 4) hc d_World_topAt_55 (by decide) ?_
          refine z_sub [2, 3, 1, 0] (L' := [(0, .ref (gAd g (1, w0, 0))), (1, .int x1), (2, .int x3), (3, .int (x3 + (iI 1)))]) rfl ?_
          exact hi (x3, x3 + (iI 1), σ4) (Option.some.inj hf).symm
def f_World_topAt (w0 : Nat) (x1 : Int32) (σ : Sg) : Option (Int32 × Sg) :=
  Option.bind (lp (fun a => b_World_topAt_4 w0 x1 a.1 a.2.1 a.2.2) FU ((iI (-1)), (iI 0), σ)) (fun b13 => some (b13.1, b13.2))
theorem ok_World_topAt (g : Gv) (w0 : Nat) (x1 : Int32) (hv0 : w0 < 3) (σ : Sg) (r : Int32 × Sg) (hf : f_World_topAt w0 x1 σ = some r) : Ok g y_World_topAt c_World_topAt 4 (some .int) 4 [.ref (gAd g (1, w0, 0)), .int x1] σ (some (.int r.1), r.2) := by
  unfold f_World_topAt at hf
  refine Ok.of [(0, .ref (gAd g (1, w0, 0))), (1, .int x1)] (by decide) (Nat.le_of_ble_eq_true rfl) rfl ?_
  intro x hc
  have hc : Zc x g c_World_topAt R_World 4 (some .int) 4 := hc
  obtain ⟨ρ, hρ⟩ : ∃ ρ : Option Value × Sg, ρ = (some (.int r.1), r.2) := ⟨_, rfl⟩
  rw [← hρ]
  refine z_iconst (v := (iI (-1))) hc d_World_topAt_0 (by decide) ?_
  refine z_istore_n (L' := [(2, .int (iI (-1))), (0, .ref (gAd g (1, w0, 0))), (1, .int x1)]) hc d_World_topAt_1 (by decide) rfl ?_
  refine z_iconst (v := (iI 0)) hc d_World_topAt_2 (by decide) ?_
  refine z_istore_n (L' := [(3, .int (iI 0)), (2, .int (iI (-1))), (0, .ref (gAd g (1, w0, 0))), (1, .int x1)]) hc d_World_topAt_3 (by decide) rfl ?_
  refine z_sub [2, 3, 1, 0] (L' := [(0, .ref (gAd g (1, w0, 0))), (1, .int x1), (2, .int (iI (-1))), (3, .int (iI 0))]) rfl ?_
  obtain ⟨⟨y11, σ12⟩, hl14, hf⟩ := bd hf
  try dsimp only at hf
  refine lp_walk (α := (Int32 × Int32 × Sg)) (β := (Int32 × Sg)) (body := (fun a : (Int32 × Int32 × Sg) => b_World_topAt_4 w0 x1 a.1 a.2.1 a.2.2)) (In := (fun a : (Int32 × Int32 × Sg) => Z x g 4 ρ 4 [(0, .ref (gAd g (1, w0, 0))), (1, .int x1), (2, .int a.1), (3, .int a.2.1)] [] a.2.2)) (Out := (fun b => Z x g 4 ρ 58 [(2, .int b.1)] [] b.2)) (fun a r hb hi ho => sb_World_topAt_4 hc w0 x1 hv0 a.1 a.2.1 a.2.2 r hb hi (fun b e => ho _ e)) FU ((iI (-1)), (iI 0), σ) _ hl14 ?_
  dsimp only
  refine z_iload_n hc d_World_topAt_58 0 rfl ?_
  exact z_iret hc d_World_topAt_59 (rI hf hρ)
theorem vl_World_83 : VL R_World 83 y_World_topAt c_World_topAt 4 (some .int) 1 := ⟨tb2 52 (by decide +kernel) (by decide +kernel), tb2 53 (by decide +kernel) (by decide +kernel), tb2 54 (by decide +kernel) (by decide +kernel), tb1 8 (by decide +kernel) (by decide +kernel), k_World_topAt, by decide, by decide, by decide +kernel, by decide⟩
theorem cz_World_83 {x : Cx} {g : Gv} {cc : ByteArray} {nL d pc : Nat} {ret : Option FieldType} {ρ : Option Value × Sg} {L : List (Nat × Value)} {st : List Value} {σ : Sg} (hc : Zc x g cc R_World nL ret d) (hd : decode cc pc = .ok (.invokevirtual 83, 3)) (hdd : 5 ≤ d) {w0 : Nat} {x1 : Int32} (hv0 : w0 < 3) {v : Int32} {σ1 : Sg} (hf : f_World_topAt w0 x1 σ = some (v, σ1)) (hst : (st.map (fun v => v.category)).sum ≤ 8) (k : Z x g nL ρ (pc + 3) L (.int v :: st) σ1) : Z x g nL ρ pc L (.int x1 :: .ref (gAd g (1, w0, 0)) :: st) σ := z_callV (ci := 9) (As := [.int x1]) hc hd vl_World_83 hdd (1, w0, 0) (dm_World hv0) rfl rfl (ok_World_topAt g w0 x1 hv0 σ (v, σ1) hf) rfl rfl hst rfl k
def f_World_ownerAt (w0 : Nat) (x1 : Int32) (σ : Sg) : Option (Int32 × Sg) :=
  b2 (f_World_topAt w0 x1 σ) (fun v1 σ2 => (if (iI 0) ≤ v1 then Option.bind (rd v1 8) (fun j4 => some (σ2.1 2 w0 j4 1, σ2)) else some ((iI (-1)), σ2)))
theorem ok_World_ownerAt (g : Gv) (w0 : Nat) (x1 : Int32) (hv0 : w0 < 3) (σ : Sg) (r : Int32 × Sg) (hf : f_World_ownerAt w0 x1 σ = some r) : Ok g y_World_ownerAt c_World_ownerAt 3 (some .int) 5 [.ref (gAd g (1, w0, 0)), .int x1] σ (some (.int r.1), r.2) := by
  unfold f_World_ownerAt at hf
  refine Ok.of [(0, .ref (gAd g (1, w0, 0))), (1, .int x1)] (by decide) (Nat.le_of_ble_eq_true rfl) rfl ?_
  intro x hc
  have hc : Zc x g c_World_ownerAt R_World 3 (some .int) 5 := hc
  obtain ⟨ρ, hρ⟩ : ∃ ρ : Option Value × Sg, ρ = (some (.int r.1), r.2) := ⟨_, rfl⟩
  rw [← hρ]
  refine z_aload_n hc d_World_ownerAt_0 0 rfl ?_
  refine z_iload_n hc d_World_ownerAt_1 1 rfl ?_
  obtain ⟨v1, σ2, h3, hf⟩ := bd2 hf
  refine cz_World_83 hc d_World_ownerAt_2 (by decide) hv0 h3 (Nat.le_of_ble_eq_true rfl) ?_
  refine z_istore_n (L' := [(2, .int v1), (0, .ref (gAd g (1, w0, 0))), (1, .int x1)]) hc d_World_ownerAt_5 (by decide) rfl ?_
  refine z_iload_n hc d_World_ownerAt_6 0 rfl ?_
  refine z_if_ge (tgt := 14) hc d_World_ownerAt_7 (by decide) (fun hq => ?_) (fun hq => ?_)
  · have hf := ifp hq hf
    refine z_aload_n hc d_World_ownerAt_14 1 rfl ?_
    refine gf_World_11 hc d_World_ownerAt_15 hv0 ?_
    refine z_iload_n hc d_World_ownerAt_18 0 rfl ?_
    obtain ⟨j4, hj5, hf⟩ := bd hf
    refine ald_rugs hc d_World_ownerAt_19 hv0 hj5 ?_
    refine gf_World_86 hc d_World_ownerAt_20 (okR_of hv0 (rd_lt hj5)) ?_
    exact z_iret hc d_World_ownerAt_23 (rI hf hρ)
  · have hf := ifn hq hf
    refine z_iconst (v := (iI (-1))) hc d_World_ownerAt_10 (by decide) ?_
    refine z_goto (tgt := 23) hc d_World_ownerAt_11 (by decide) ?_
    exact z_iret hc d_World_ownerAt_23 (rI hf hρ)
def b_World_setAt_4 (w0 : Nat) (x1 : Int32) (x2 : Int32) (x3 : Int32) (σ : Sg) : Option ((Int32 × Int32 × Sg) ⊕ (Int32 × Sg)) :=
  (if (σ.1 1 w0 0 0) ≤ x3 then some (.inr (x2, σ)) else Option.bind (rd x3 8) (fun j1 => b2 (f_Rug_covers w0 j1 x1 σ) (fun v3 σ4 => (if v3 = (iI 0) then some (.inl (x2, x3 + (iI 1), σ4)) else some (.inl (x2 ||| ((iI 1) <<< (x3 &&& 31)), x3 + (iI 1), σ4))))))
theorem sb_World_setAt_4 {x : Cx} {g : Gv} {ρ : Option Value × Sg} (hc : Zc x g c_World_setAt R_World 4 (some .int) 4) (w0 : Nat) (x1 : Int32) (hv0 : w0 < 3) (x2 : Int32) (x3 : Int32) (σ : Sg) (r : (Int32 × Int32 × Sg) ⊕ (Int32 × Sg)) (hf : b_World_setAt_4 w0 x1 x2 x3 σ = some r) (hi : ∀ a', r = .inl a' → Z x g 4 ρ 4 [(0, .ref (gAd g (1, w0, 0))), (1, .int x1), (2, .int a'.1), (3, .int a'.2.1)] [] a'.2.2) (he0 : ∀ b, r = .inr b → Z x g 4 ρ 37 [(2, .int b.1)] [] b.2) : Z x g 4 ρ 4 [(0, .ref (gAd g (1, w0, 0))), (1, .int x1), (2, .int x2), (3, .int x3)] [] σ := by
  unfold b_World_setAt_4 at hf
  refine z_iload_n hc d_World_setAt_4 3 rfl ?_
  refine z_aload_n hc d_World_setAt_5 0 rfl ?_
  refine gf_World_31 hc d_World_setAt_6 hv0 ?_
  refine z_icmp_ge (tgt := 37) hc d_World_setAt_9 (by decide) (fun hq => ?_) (fun hq => ?_)
  · have hf := ifp hq hf
    refine z_sub [2] (L' := [(2, .int x2)]) rfl ?_
    exact he0 (x2, σ) (Option.some.inj hf).symm
  · have hf := ifn hq hf
    refine z_aload_n hc d_World_setAt_12 0 rfl ?_
    refine gf_World_11 hc d_World_setAt_13 hv0 ?_
    refine z_iload_n hc d_World_setAt_16 3 rfl ?_
    obtain ⟨j1, hj2, hf⟩ := bd hf
    refine ald_rugs hc d_World_setAt_17 hv0 hj2 ?_
    refine z_iload_n hc d_World_setAt_18 1 rfl ?_
    obtain ⟨v3, σ4, h5, hf⟩ := bd2 hf
    refine cz_World_79 hc d_World_setAt_19 (by decide) (okR_of hv0 (rd_lt hj2)) h5 (Nat.le_of_ble_eq_true rfl) ?_
    refine z_if_eq (tgt := 31) hc d_World_setAt_22 (by decide) (fun hq => ?_) (fun hq => ?_)
    · have hf := ifp hq hf
      refine z_iinc (v := x3 + (iI 1)) (L' := [(3, .int (x3 + (iI 1))), (0, .ref (gAd g (1, w0, 0))), (1, .int x1), (2, .int x2)]) hc d_World_setAt_31 3 rfl rfl (by decide) rfl ?_
      refine z_goto (tgt := 4) hc d_World_setAt_34 (by decide) ?_
      refine z_sub [1, 2, 3, 0] (L' := [(0, .ref (gAd g (1, w0, 0))), (1, .int x1), (2, .int x2), (3, .int (x3 + (iI 1)))]) rfl ?_
      exact hi (x2, x3 + (iI 1), σ4) (Option.some.inj hf).symm
    · have hf := ifn hq hf
      refine z_iload_n hc d_World_setAt_25 2 rfl ?_
      refine z_iconst (v := (iI 1)) hc d_World_setAt_26 (by decide) ?_
      refine z_iload_n hc d_World_setAt_27 3 rfl ?_
      refine z_ishl hc d_World_setAt_28 ?_
      refine z_ior hc d_World_setAt_29 ?_
      refine z_istore_n (L' := [(2, .int (x2 ||| ((iI 1) <<< (x3 &&& 31)))), (0, .ref (gAd g (1, w0, 0))), (1, .int x1), (3, .int x3)]) hc d_World_setAt_30 (by decide) rfl ?_
      refine z_iinc (v := x3 + (iI 1)) (L' := [(3, .int (x3 + (iI 1))), (2, .int (x2 ||| ((iI 1) <<< (x3 &&& 31)))), (0, .ref (gAd g (1, w0, 0))), (1, .int x1)]) hc d_World_setAt_31 3 rfl rfl (by decide) rfl ?_
      refine z_goto (tgt := 4) hc d_World_setAt_34 (by decide) ?_
      refine z_sub [2, 3, 1, 0] (L' := [(0, .ref (gAd g (1, w0, 0))), (1, .int x1), (2, .int (x2 ||| ((iI 1) <<< (x3 &&& 31)))), (3, .int (x3 + (iI 1)))]) rfl ?_
      exact hi (x2 ||| ((iI 1) <<< (x3 &&& 31)), x3 + (iI 1), σ4) (Option.some.inj hf).symm
def f_World_setAt (w0 : Nat) (x1 : Int32) (σ : Sg) : Option (Int32 × Sg) :=
  Option.bind (lp (fun a => b_World_setAt_4 w0 x1 a.1 a.2.1 a.2.2) FU ((iI 0), (iI 0), σ)) (fun b9 => some (b9.1, b9.2))
theorem ok_World_setAt (g : Gv) (w0 : Nat) (x1 : Int32) (hv0 : w0 < 3) (σ : Sg) (r : Int32 × Sg) (hf : f_World_setAt w0 x1 σ = some r) : Ok g y_World_setAt c_World_setAt 4 (some .int) 4 [.ref (gAd g (1, w0, 0)), .int x1] σ (some (.int r.1), r.2) := by
  unfold f_World_setAt at hf
  refine Ok.of [(0, .ref (gAd g (1, w0, 0))), (1, .int x1)] (by decide) (Nat.le_of_ble_eq_true rfl) rfl ?_
  intro x hc
  have hc : Zc x g c_World_setAt R_World 4 (some .int) 4 := hc
  obtain ⟨ρ, hρ⟩ : ∃ ρ : Option Value × Sg, ρ = (some (.int r.1), r.2) := ⟨_, rfl⟩
  rw [← hρ]
  refine z_iconst (v := (iI 0)) hc d_World_setAt_0 (by decide) ?_
  refine z_istore_n (L' := [(2, .int (iI 0)), (0, .ref (gAd g (1, w0, 0))), (1, .int x1)]) hc d_World_setAt_1 (by decide) rfl ?_
  refine z_iconst (v := (iI 0)) hc d_World_setAt_2 (by decide) ?_
  refine z_istore_n (L' := [(3, .int (iI 0)), (2, .int (iI 0)), (0, .ref (gAd g (1, w0, 0))), (1, .int x1)]) hc d_World_setAt_3 (by decide) rfl ?_
  refine z_sub [2, 3, 1, 0] (L' := [(0, .ref (gAd g (1, w0, 0))), (1, .int x1), (2, .int (iI 0)), (3, .int (iI 0))]) rfl ?_
  obtain ⟨⟨y7, σ8⟩, hl10, hf⟩ := bd hf
  try dsimp only at hf
  refine lp_walk (α := (Int32 × Int32 × Sg)) (β := (Int32 × Sg)) (body := (fun a : (Int32 × Int32 × Sg) => b_World_setAt_4 w0 x1 a.1 a.2.1 a.2.2)) (In := (fun a : (Int32 × Int32 × Sg) => Z x g 4 ρ 4 [(0, .ref (gAd g (1, w0, 0))), (1, .int x1), (2, .int a.1), (3, .int a.2.1)] [] a.2.2)) (Out := (fun b => Z x g 4 ρ 37 [(2, .int b.1)] [] b.2)) (fun a r hb hi ho => sb_World_setAt_4 hc w0 x1 hv0 a.1 a.2.1 a.2.2 r hb hi (fun b e => ho _ e)) FU ((iI 0), (iI 0), σ) _ hl10 ?_
  dsimp only
  refine z_iload_n hc d_World_setAt_37 0 rfl ?_
  exact z_iret hc d_World_setAt_38 (rI hf hρ)
theorem vl_World_89 : VL R_World 89 y_Rug_isOut c_Rug_isOut 1 (some .boolean) 0 := ⟨tb2 114 (by decide +kernel) (by decide +kernel), tb2 61 (by decide +kernel) (by decide +kernel), tb2 62 (by decide +kernel) (by decide +kernel), tb1 9 (by decide +kernel) (by decide +kernel), k_Rug_isOut, by decide, by decide, by decide +kernel, by decide⟩
theorem cz_World_89 {x : Cx} {g : Gv} {cc : ByteArray} {nL d pc : Nat} {ret : Option FieldType} {ρ : Option Value × Sg} {L : List (Nat × Value)} {st : List Value} {σ : Sg} (hc : Zc x g cc R_World nL ret d) (hd : decode cc pc = .ok (.invokevirtual 89, 3)) (hdd : 1 ≤ d) {w0 : Nat} {c0 : Nat} (hv0 : okR w0 c0) {v : Int32} {σ1 : Sg} (hf : f_Rug_isOut w0 c0 σ = some (v, σ1)) (hst : (st.map (fun v => v.category)).sum ≤ 8) (k : Z x g nL ρ (pc + 3) L (.int v :: st) σ1) : Z x g nL ρ pc L (.ref (gAd g (2, w0, c0)) :: st) σ := z_callV (ci := 2) (As := []) hc hd vl_World_89 hdd (2, w0, c0) (dm_Rug hv0) rfl rfl (ok_Rug_isOut g w0 c0 hv0 σ (v, σ1) hf) rfl rfl hst rfl k
def b_World_setOut_4 (w0 : Nat) (x1 : Int32) (x2 : Int32) (σ : Sg) : Option ((Int32 × Int32 × Sg) ⊕ (Int32 × Sg)) :=
  (if (σ.1 1 w0 0 0) ≤ x2 then some (.inr (x1, σ)) else Option.bind (rd x2 8) (fun j1 => b2 (f_Rug_isOut w0 j1 σ) (fun v3 σ4 => (if v3 = (iI 0) then some (.inl (x1, x2 + (iI 1), σ4)) else some (.inl (x1 ||| ((iI 1) <<< (x2 &&& 31)), x2 + (iI 1), σ4))))))
theorem sb_World_setOut_4 {x : Cx} {g : Gv} {ρ : Option Value × Sg} (hc : Zc x g c_World_setOut R_World 3 (some .int) 1) (w0 : Nat) (hv0 : w0 < 3) (x1 : Int32) (x2 : Int32) (σ : Sg) (r : (Int32 × Int32 × Sg) ⊕ (Int32 × Sg)) (hf : b_World_setOut_4 w0 x1 x2 σ = some r) (hi : ∀ a', r = .inl a' → Z x g 3 ρ 4 [(0, .ref (gAd g (1, w0, 0))), (1, .int a'.1), (2, .int a'.2.1)] [] a'.2.2) (he0 : ∀ b, r = .inr b → Z x g 3 ρ 36 [(1, .int b.1)] [] b.2) : Z x g 3 ρ 4 [(0, .ref (gAd g (1, w0, 0))), (1, .int x1), (2, .int x2)] [] σ := by
  unfold b_World_setOut_4 at hf
  refine z_iload_n hc d_World_setOut_4 2 rfl ?_
  refine z_aload_n hc d_World_setOut_5 0 rfl ?_
  refine gf_World_31 hc d_World_setOut_6 hv0 ?_
  refine z_icmp_ge (tgt := 36) hc d_World_setOut_9 (by decide) (fun hq => ?_) (fun hq => ?_)
  · have hf := ifp hq hf
    refine z_sub [1] (L' := [(1, .int x1)]) rfl ?_
    exact he0 (x1, σ) (Option.some.inj hf).symm
  · have hf := ifn hq hf
    refine z_aload_n hc d_World_setOut_12 0 rfl ?_
    refine gf_World_11 hc d_World_setOut_13 hv0 ?_
    refine z_iload_n hc d_World_setOut_16 2 rfl ?_
    obtain ⟨j1, hj2, hf⟩ := bd hf
    refine ald_rugs hc d_World_setOut_17 hv0 hj2 ?_
    obtain ⟨v3, σ4, h5, hf⟩ := bd2 hf
    refine cz_World_89 hc d_World_setOut_18 (by decide) (okR_of hv0 (rd_lt hj2)) h5 (Nat.le_of_ble_eq_true rfl) ?_
    refine z_if_eq (tgt := 30) hc d_World_setOut_21 (by decide) (fun hq => ?_) (fun hq => ?_)
    · have hf := ifp hq hf
      refine z_iinc (v := x2 + (iI 1)) (L' := [(2, .int (x2 + (iI 1))), (0, .ref (gAd g (1, w0, 0))), (1, .int x1)]) hc d_World_setOut_30 2 rfl rfl (by decide) rfl ?_
      refine z_goto (tgt := 4) hc d_World_setOut_33 (by decide) ?_
      refine z_sub [1, 2, 0] (L' := [(0, .ref (gAd g (1, w0, 0))), (1, .int x1), (2, .int (x2 + (iI 1)))]) rfl ?_
      exact hi (x1, x2 + (iI 1), σ4) (Option.some.inj hf).symm
    · have hf := ifn hq hf
      refine z_iload_n hc d_World_setOut_24 1 rfl ?_
      refine z_iconst (v := (iI 1)) hc d_World_setOut_25 (by decide) ?_
      refine z_iload_n hc d_World_setOut_26 2 rfl ?_
      refine z_ishl hc d_World_setOut_27 ?_
      refine z_ior hc d_World_setOut_28 ?_
      refine z_istore_n (L' := [(1, .int (x1 ||| ((iI 1) <<< (x2 &&& 31)))), (0, .ref (gAd g (1, w0, 0))), (2, .int x2)]) hc d_World_setOut_29 (by decide) rfl ?_
      refine z_iinc (v := x2 + (iI 1)) (L' := [(2, .int (x2 + (iI 1))), (1, .int (x1 ||| ((iI 1) <<< (x2 &&& 31)))), (0, .ref (gAd g (1, w0, 0)))]) hc d_World_setOut_30 2 rfl rfl (by decide) rfl ?_
      refine z_goto (tgt := 4) hc d_World_setOut_33 (by decide) ?_
      refine z_sub [2, 1, 0] (L' := [(0, .ref (gAd g (1, w0, 0))), (1, .int (x1 ||| ((iI 1) <<< (x2 &&& 31)))), (2, .int (x2 + (iI 1)))]) rfl ?_
      exact hi (x1 ||| ((iI 1) <<< (x2 &&& 31)), x2 + (iI 1), σ4) (Option.some.inj hf).symm
def f_World_setOut (w0 : Nat) (σ : Sg) : Option (Int32 × Sg) :=
  Option.bind (lp (fun a => b_World_setOut_4 w0 a.1 a.2.1 a.2.2) FU ((iI 0), (iI 0), σ)) (fun b9 => some (b9.1, b9.2))
theorem ok_World_setOut (g : Gv) (w0 : Nat) (hv0 : w0 < 3) (σ : Sg) (r : Int32 × Sg) (hf : f_World_setOut w0 σ = some r) : Ok g y_World_setOut c_World_setOut 3 (some .int) 1 [.ref (gAd g (1, w0, 0))] σ (some (.int r.1), r.2) := by
  unfold f_World_setOut at hf
  refine Ok.of [(0, .ref (gAd g (1, w0, 0)))] (by decide) (Nat.le_of_ble_eq_true rfl) rfl ?_
  intro x hc
  have hc : Zc x g c_World_setOut R_World 3 (some .int) 1 := hc
  obtain ⟨ρ, hρ⟩ : ∃ ρ : Option Value × Sg, ρ = (some (.int r.1), r.2) := ⟨_, rfl⟩
  rw [← hρ]
  refine z_iconst (v := (iI 0)) hc d_World_setOut_0 (by decide) ?_
  refine z_istore_n (L' := [(1, .int (iI 0)), (0, .ref (gAd g (1, w0, 0)))]) hc d_World_setOut_1 (by decide) rfl ?_
  refine z_iconst (v := (iI 0)) hc d_World_setOut_2 (by decide) ?_
  refine z_istore_n (L' := [(2, .int (iI 0)), (1, .int (iI 0)), (0, .ref (gAd g (1, w0, 0)))]) hc d_World_setOut_3 (by decide) rfl ?_
  refine z_sub [2, 1, 0] (L' := [(0, .ref (gAd g (1, w0, 0))), (1, .int (iI 0)), (2, .int (iI 0))]) rfl ?_
  obtain ⟨⟨y7, σ8⟩, hl10, hf⟩ := bd hf
  try dsimp only at hf
  refine lp_walk (α := (Int32 × Int32 × Sg)) (β := (Int32 × Sg)) (body := (fun a : (Int32 × Int32 × Sg) => b_World_setOut_4 w0 a.1 a.2.1 a.2.2)) (In := (fun a : (Int32 × Int32 × Sg) => Z x g 3 ρ 4 [(0, .ref (gAd g (1, w0, 0))), (1, .int a.1), (2, .int a.2.1)] [] a.2.2)) (Out := (fun b => Z x g 3 ρ 36 [(1, .int b.1)] [] b.2)) (fun a r hb hi ho => sb_World_setOut_4 hc w0 hv0 a.1 a.2.1 a.2.2 r hb hi (fun b e => ho _ e)) FU ((iI 0), (iI 0), σ) _ hl10 ?_
  dsimp only
  refine z_iload_n hc d_World_setOut_36 0 rfl ?_
  exact z_iret hc d_World_setOut_37 (rI hf hρ)
def b_World_allPiles_4 (w0 : Nat) (x1 : Int32) (x2 : Int32) (σ : Sg) : Option ((Int32 × Int32 × Sg) ⊕ (Int32 × Sg)) :=
  (if (σ.1 1 w0 0 0) ≤ x2 then some (.inr (x1, σ)) else Option.bind (rd x2 8) (fun j1 => some (.inl (x1 + (σ.1 2 w0 j1 3), x2 + (iI 1), σ))))
theorem sb_World_allPiles_4 {x : Cx} {g : Gv} {ρ : Option Value × Sg} (hc : Zc x g c_World_allPiles R_World 3 (some .int) 0) (w0 : Nat) (hv0 : w0 < 3) (x1 : Int32) (x2 : Int32) (σ : Sg) (r : (Int32 × Int32 × Sg) ⊕ (Int32 × Sg)) (hf : b_World_allPiles_4 w0 x1 x2 σ = some r) (hi : ∀ a', r = .inl a' → Z x g 3 ρ 4 [(0, .ref (gAd g (1, w0, 0))), (1, .int a'.1), (2, .int a'.2.1)] [] a'.2.2) (he0 : ∀ b, r = .inr b → Z x g 3 ρ 30 [(1, .int b.1)] [] b.2) : Z x g 3 ρ 4 [(0, .ref (gAd g (1, w0, 0))), (1, .int x1), (2, .int x2)] [] σ := by
  unfold b_World_allPiles_4 at hf
  refine z_iload_n hc d_World_allPiles_4 2 rfl ?_
  refine z_aload_n hc d_World_allPiles_5 0 rfl ?_
  refine gf_World_31 hc d_World_allPiles_6 hv0 ?_
  refine z_icmp_ge (tgt := 30) hc d_World_allPiles_9 (by decide) (fun hq => ?_) (fun hq => ?_)
  · have hf := ifp hq hf
    refine z_sub [1] (L' := [(1, .int x1)]) rfl ?_
    exact he0 (x1, σ) (Option.some.inj hf).symm
  · have hf := ifn hq hf
    refine z_iload_n hc d_World_allPiles_12 1 rfl ?_
    refine z_aload_n hc d_World_allPiles_13 0 rfl ?_
    refine gf_World_11 hc d_World_allPiles_14 hv0 ?_
    refine z_iload_n hc d_World_allPiles_17 2 rfl ?_
    obtain ⟨j1, hj2, hf⟩ := bd hf
    refine ald_rugs hc d_World_allPiles_18 hv0 hj2 ?_
    refine gf_World_93 hc d_World_allPiles_19 (okR_of hv0 (rd_lt hj2)) ?_
    refine z_iadd hc d_World_allPiles_22 ?_
    refine z_istore_n (L' := [(1, .int (x1 + (σ.1 2 w0 j1 3))), (0, .ref (gAd g (1, w0, 0))), (2, .int x2)]) hc d_World_allPiles_23 (by decide) rfl ?_
    refine z_iinc (v := x2 + (iI 1)) (L' := [(2, .int (x2 + (iI 1))), (1, .int (x1 + (σ.1 2 w0 j1 3))), (0, .ref (gAd g (1, w0, 0)))]) hc d_World_allPiles_24 2 rfl rfl (by decide) rfl ?_
    refine z_goto (tgt := 4) hc d_World_allPiles_27 (by decide) ?_
    refine z_sub [2, 1, 0] (L' := [(0, .ref (gAd g (1, w0, 0))), (1, .int (x1 + (σ.1 2 w0 j1 3))), (2, .int (x2 + (iI 1)))]) rfl ?_
    exact hi (x1 + (σ.1 2 w0 j1 3), x2 + (iI 1), σ) (Option.some.inj hf).symm
def f_World_allPiles (w0 : Nat) (σ : Sg) : Option (Int32 × Sg) :=
  Option.bind (lp (fun a => b_World_allPiles_4 w0 a.1 a.2.1 a.2.2) FU ((iI 0), (iI 0), σ)) (fun b6 => some (b6.1, b6.2))
theorem ok_World_allPiles (g : Gv) (w0 : Nat) (hv0 : w0 < 3) (σ : Sg) (r : Int32 × Sg) (hf : f_World_allPiles w0 σ = some r) : Ok g y_World_allPiles c_World_allPiles 3 (some .int) 0 [.ref (gAd g (1, w0, 0))] σ (some (.int r.1), r.2) := by
  unfold f_World_allPiles at hf
  refine Ok.of [(0, .ref (gAd g (1, w0, 0)))] (by decide) (Nat.le_of_ble_eq_true rfl) rfl ?_
  intro x hc
  have hc : Zc x g c_World_allPiles R_World 3 (some .int) 0 := hc
  obtain ⟨ρ, hρ⟩ : ∃ ρ : Option Value × Sg, ρ = (some (.int r.1), r.2) := ⟨_, rfl⟩
  rw [← hρ]
  refine z_iconst (v := (iI 0)) hc d_World_allPiles_0 (by decide) ?_
  refine z_istore_n (L' := [(1, .int (iI 0)), (0, .ref (gAd g (1, w0, 0)))]) hc d_World_allPiles_1 (by decide) rfl ?_
  refine z_iconst (v := (iI 0)) hc d_World_allPiles_2 (by decide) ?_
  refine z_istore_n (L' := [(2, .int (iI 0)), (1, .int (iI 0)), (0, .ref (gAd g (1, w0, 0)))]) hc d_World_allPiles_3 (by decide) rfl ?_
  refine z_sub [2, 1, 0] (L' := [(0, .ref (gAd g (1, w0, 0))), (1, .int (iI 0)), (2, .int (iI 0))]) rfl ?_
  obtain ⟨⟨y4, σ5⟩, hl7, hf⟩ := bd hf
  try dsimp only at hf
  refine lp_walk (α := (Int32 × Int32 × Sg)) (β := (Int32 × Sg)) (body := (fun a : (Int32 × Int32 × Sg) => b_World_allPiles_4 w0 a.1 a.2.1 a.2.2)) (In := (fun a : (Int32 × Int32 × Sg) => Z x g 3 ρ 4 [(0, .ref (gAd g (1, w0, 0))), (1, .int a.1), (2, .int a.2.1)] [] a.2.2)) (Out := (fun b => Z x g 3 ρ 30 [(1, .int b.1)] [] b.2)) (fun a r hb hi ho => sb_World_allPiles_4 hc w0 hv0 a.1 a.2.1 a.2.2 r hb hi (fun b e => ho _ e)) FU ((iI 0), (iI 0), σ) _ hl7 ?_
  dsimp only
  refine z_iload_n hc d_World_allPiles_30 0 rfl ?_
  exact z_iret hc d_World_allPiles_31 (rI hf hρ)
def b_World_allMoths_4 (w0 : Nat) (x1 : Int32) (x2 : Int32) (σ : Sg) : Option ((Int32 × Int32 × Sg) ⊕ (Int32 × Sg)) :=
  (if (σ.1 1 w0 0 0) ≤ x2 then some (.inr (x1, σ)) else Option.bind (rd x2 8) (fun j1 => some (.inl (x1 + (σ.1 2 w0 j1 4), x2 + (iI 1), σ))))
theorem sb_World_allMoths_4 {x : Cx} {g : Gv} {ρ : Option Value × Sg} (hc : Zc x g c_World_allMoths R_World 3 (some .int) 0) (w0 : Nat) (hv0 : w0 < 3) (x1 : Int32) (x2 : Int32) (σ : Sg) (r : (Int32 × Int32 × Sg) ⊕ (Int32 × Sg)) (hf : b_World_allMoths_4 w0 x1 x2 σ = some r) (hi : ∀ a', r = .inl a' → Z x g 3 ρ 4 [(0, .ref (gAd g (1, w0, 0))), (1, .int a'.1), (2, .int a'.2.1)] [] a'.2.2) (he0 : ∀ b, r = .inr b → Z x g 3 ρ 30 [(1, .int b.1)] [] b.2) : Z x g 3 ρ 4 [(0, .ref (gAd g (1, w0, 0))), (1, .int x1), (2, .int x2)] [] σ := by
  unfold b_World_allMoths_4 at hf
  refine z_iload_n hc d_World_allMoths_4 2 rfl ?_
  refine z_aload_n hc d_World_allMoths_5 0 rfl ?_
  refine gf_World_31 hc d_World_allMoths_6 hv0 ?_
  refine z_icmp_ge (tgt := 30) hc d_World_allMoths_9 (by decide) (fun hq => ?_) (fun hq => ?_)
  · have hf := ifp hq hf
    refine z_sub [1] (L' := [(1, .int x1)]) rfl ?_
    exact he0 (x1, σ) (Option.some.inj hf).symm
  · have hf := ifn hq hf
    refine z_iload_n hc d_World_allMoths_12 1 rfl ?_
    refine z_aload_n hc d_World_allMoths_13 0 rfl ?_
    refine gf_World_11 hc d_World_allMoths_14 hv0 ?_
    refine z_iload_n hc d_World_allMoths_17 2 rfl ?_
    obtain ⟨j1, hj2, hf⟩ := bd hf
    refine ald_rugs hc d_World_allMoths_18 hv0 hj2 ?_
    refine gf_World_96 hc d_World_allMoths_19 (okR_of hv0 (rd_lt hj2)) ?_
    refine z_iadd hc d_World_allMoths_22 ?_
    refine z_istore_n (L' := [(1, .int (x1 + (σ.1 2 w0 j1 4))), (0, .ref (gAd g (1, w0, 0))), (2, .int x2)]) hc d_World_allMoths_23 (by decide) rfl ?_
    refine z_iinc (v := x2 + (iI 1)) (L' := [(2, .int (x2 + (iI 1))), (1, .int (x1 + (σ.1 2 w0 j1 4))), (0, .ref (gAd g (1, w0, 0)))]) hc d_World_allMoths_24 2 rfl rfl (by decide) rfl ?_
    refine z_goto (tgt := 4) hc d_World_allMoths_27 (by decide) ?_
    refine z_sub [2, 1, 0] (L' := [(0, .ref (gAd g (1, w0, 0))), (1, .int (x1 + (σ.1 2 w0 j1 4))), (2, .int (x2 + (iI 1)))]) rfl ?_
    exact hi (x1 + (σ.1 2 w0 j1 4), x2 + (iI 1), σ) (Option.some.inj hf).symm
def f_World_allMoths (w0 : Nat) (σ : Sg) : Option (Int32 × Sg) :=
  Option.bind (lp (fun a => b_World_allMoths_4 w0 a.1 a.2.1 a.2.2) FU ((iI 0), (iI 0), σ)) (fun b6 => some (b6.1, b6.2))
theorem ok_World_allMoths (g : Gv) (w0 : Nat) (hv0 : w0 < 3) (σ : Sg) (r : Int32 × Sg) (hf : f_World_allMoths w0 σ = some r) : Ok g y_World_allMoths c_World_allMoths 3 (some .int) 0 [.ref (gAd g (1, w0, 0))] σ (some (.int r.1), r.2) := by
  unfold f_World_allMoths at hf
  refine Ok.of [(0, .ref (gAd g (1, w0, 0)))] (by decide) (Nat.le_of_ble_eq_true rfl) rfl ?_
  intro x hc
  have hc : Zc x g c_World_allMoths R_World 3 (some .int) 0 := hc
  obtain ⟨ρ, hρ⟩ : ∃ ρ : Option Value × Sg, ρ = (some (.int r.1), r.2) := ⟨_, rfl⟩
  rw [← hρ]
  refine z_iconst (v := (iI 0)) hc d_World_allMoths_0 (by decide) ?_
  refine z_istore_n (L' := [(1, .int (iI 0)), (0, .ref (gAd g (1, w0, 0)))]) hc d_World_allMoths_1 (by decide) rfl ?_
  refine z_iconst (v := (iI 0)) hc d_World_allMoths_2 (by decide) ?_
  refine z_istore_n (L' := [(2, .int (iI 0)), (1, .int (iI 0)), (0, .ref (gAd g (1, w0, 0)))]) hc d_World_allMoths_3 (by decide) rfl ?_
  refine z_sub [2, 1, 0] (L' := [(0, .ref (gAd g (1, w0, 0))), (1, .int (iI 0)), (2, .int (iI 0))]) rfl ?_
  obtain ⟨⟨y4, σ5⟩, hl7, hf⟩ := bd hf
  try dsimp only at hf
  refine lp_walk (α := (Int32 × Int32 × Sg)) (β := (Int32 × Sg)) (body := (fun a : (Int32 × Int32 × Sg) => b_World_allMoths_4 w0 a.1 a.2.1 a.2.2)) (In := (fun a : (Int32 × Int32 × Sg) => Z x g 3 ρ 4 [(0, .ref (gAd g (1, w0, 0))), (1, .int a.1), (2, .int a.2.1)] [] a.2.2)) (Out := (fun b => Z x g 3 ρ 30 [(1, .int b.1)] [] b.2)) (fun a r hb hi ho => sb_World_allMoths_4 hc w0 hv0 a.1 a.2.1 a.2.2 r hb hi (fun b e => ho _ e)) FU ((iI 0), (iI 0), σ) _ hl7 ?_
  dsimp only
  refine z_iload_n hc d_World_allMoths_30 0 rfl ?_
  exact z_iret hc d_World_allMoths_31 (rI hf hρ)
def b_World_addLayer_5 (w0 : Nat) (x1 : Int32) (x2 : Int32) (σ : Sg) : Option ((Int32 × Sg) ⊕ (Int32 × Sg)) :=
  (if x2 ≤ (iI 0) then some (.inr (x2, σ)) else Option.bind (rd (x2 - (iI 1)) 8) (fun j1 => Option.bind (rd (σ.1 13 w0 0 j1) 8) (fun j3 => Option.bind (rd x1 8) (fun j5 => (if (σ.1 2 w0 j5 6) ≤ (σ.1 2 w0 j3 6) then some (.inr (x2, σ)) else Option.bind (rd (x2 - (iI 1)) 8) (fun j7 => Option.bind (rd x2 8) (fun j9 => some (.inl (x2 + (iI (-1)), upI σ 13 w0 0 j9 (σ.1 13 w0 0 j7))))))))))
theorem sb_World_addLayer_5 {x : Cx} {g : Gv} {ρ : Option Value × Sg} (hc : Zc x g c_World_addLayer R_World 3 none 0) (w0 : Nat) (x1 : Int32) (hv0 : w0 < 3) (x2 : Int32) (σ : Sg) (r : (Int32 × Sg) ⊕ (Int32 × Sg)) (hf : b_World_addLayer_5 w0 x1 x2 σ = some r) (hi : ∀ a', r = .inl a' → Z x g 3 ρ 5 [(0, .ref (gAd g (1, w0, 0))), (1, .int x1), (2, .int a'.1)] [] a'.2) (he0 : ∀ b, r = .inr b → Z x g 3 ρ 57 [(0, .ref (gAd g (1, w0, 0))), (1, .int x1), (2, .int b.1)] [] b.2) : Z x g 3 ρ 5 [(0, .ref (gAd g (1, w0, 0))), (1, .int x1), (2, .int x2)] [] σ := by
  unfold b_World_addLayer_5 at hf
  refine z_iload_n hc d_World_addLayer_5 2 rfl ?_
  refine z_if_le (tgt := 57) hc d_World_addLayer_6 (by decide) (fun hq => ?_) (fun hq => ?_)
  · have hf := ifp hq hf
    refine z_sub [0, 1, 2] (L' := [(0, .ref (gAd g (1, w0, 0))), (1, .int x1), (2, .int x2)]) rfl ?_
    exact he0 (x2, σ) (Option.some.inj hf).symm
  · have hf := ifn hq hf
    refine z_aload_n hc d_World_addLayer_9 0 rfl ?_
    refine gf_World_11 hc d_World_addLayer_10 hv0 ?_
    refine z_aload_n hc d_World_addLayer_13 0 rfl ?_
    refine gf_World_24 hc d_World_addLayer_14 hv0 ?_
    refine z_iload_n hc d_World_addLayer_17 2 rfl ?_
    refine z_iconst (v := (iI 1)) hc d_World_addLayer_18 (by decide) ?_
    refine z_isub hc d_World_addLayer_19 ?_
    obtain ⟨j1, hj2, hf⟩ := bd hf
    refine ald_layers hc d_World_addLayer_20 hv0 hj2 ?_
    obtain ⟨j3, hj4, hf⟩ := bd hf
    refine ald_rugs hc d_World_addLayer_21 hv0 hj4 ?_
    refine gf_World_62 hc d_World_addLayer_22 (okR_of hv0 (rd_lt hj4)) ?_
    refine z_aload_n hc d_World_addLayer_25 0 rfl ?_
    refine gf_World_11 hc d_World_addLayer_26 hv0 ?_
    refine z_iload_n hc d_World_addLayer_29 1 rfl ?_
    obtain ⟨j5, hj6, hf⟩ := bd hf
    refine ald_rugs hc d_World_addLayer_30 hv0 hj6 ?_
    refine gf_World_62 hc d_World_addLayer_31 (okR_of hv0 (rd_lt hj6)) ?_
    refine z_icmp_ge (tgt := 57) hc d_World_addLayer_34 (by decide) (fun hq => ?_) (fun hq => ?_)
    · have hf := ifp hq hf
      refine z_sub [0, 1, 2] (L' := [(0, .ref (gAd g (1, w0, 0))), (1, .int x1), (2, .int x2)]) rfl ?_
      exact he0 (x2, σ) (Option.some.inj hf).symm
    · have hf := ifn hq hf
      refine z_aload_n hc d_World_addLayer_37 0 rfl ?_
      refine gf_World_24 hc d_World_addLayer_38 hv0 ?_
      refine z_iload_n hc d_World_addLayer_41 2 rfl ?_
      refine z_aload_n hc d_World_addLayer_42 0 rfl ?_
      refine gf_World_24 hc d_World_addLayer_43 hv0 ?_
      refine z_iload_n hc d_World_addLayer_46 2 rfl ?_
      refine z_iconst (v := (iI 1)) hc d_World_addLayer_47 (by decide) ?_
      refine z_isub hc d_World_addLayer_48 ?_
      obtain ⟨j7, hj8, hf⟩ := bd hf
      refine ald_layers hc d_World_addLayer_49 hv0 hj8 ?_
      obtain ⟨j9, hj10, hf⟩ := bd hf
      refine ast_layers hc d_World_addLayer_50 hv0 hj10 ?_
      refine z_iinc (v := x2 + (iI (-1))) (L' := [(2, .int (x2 + (iI (-1)))), (0, .ref (gAd g (1, w0, 0))), (1, .int x1)]) hc d_World_addLayer_51 2 rfl rfl (by decide) rfl ?_
      refine z_goto (tgt := 5) hc d_World_addLayer_54 (by decide) ?_
      refine z_sub [1, 2, 0] (L' := [(0, .ref (gAd g (1, w0, 0))), (1, .int x1), (2, .int (x2 + (iI (-1))))]) rfl ?_
      exact hi (x2 + (iI (-1)), upI σ 13 w0 0 j9 (σ.1 13 w0 0 j7)) (Option.some.inj hf).symm
def j_World_addLayer_57 (w0 : Nat) (x1 : Int32) (x2 : Int32) (σ : Sg) : Option (Unit × Sg) :=
  Option.bind (rd x2 8) (fun j14 => some ((), upI (upI σ 13 w0 0 j14 x1) 1 w0 0 3 (((upI σ 13 w0 0 j14 x1).1 1 w0 0 3) + (iI 1))))
theorem sj_World_addLayer_57 {x : Cx} {g : Gv} {ρ : Option Value × Sg} (hc : Zc x g c_World_addLayer R_World 3 none 0) (w0 : Nat) (x1 : Int32) (x2 : Int32) (hv0 : w0 < 3) (σ : Sg) (r : Unit × Sg) (hf : j_World_addLayer_57 w0 x1 x2 σ = some r) (hρ : ρ = (none, r.2)) : Z x g 3 ρ 57 [(0, .ref (gAd g (1, w0, 0))), (1, .int x1), (2, .int x2)] [] σ := by
  unfold j_World_addLayer_57 at hf
  refine z_aload_n hc d_World_addLayer_57 0 rfl ?_
  refine gf_World_24 hc d_World_addLayer_58 hv0 ?_
  refine z_iload_n hc d_World_addLayer_61 2 rfl ?_
  refine z_iload_n hc d_World_addLayer_62 1 rfl ?_
  obtain ⟨j14, hj15, hf⟩ := bd hf
  refine ast_layers hc d_World_addLayer_63 hv0 hj15 ?_
  refine z_aload_n hc d_World_addLayer_64 0 rfl ?_
  refine z_dup hc d_World_addLayer_65 rfl ?_
  refine gf_World_105 hc d_World_addLayer_66 hv0 ?_
  refine z_iconst (v := (iI 1)) hc d_World_addLayer_69 (by decide) ?_
  refine z_iadd hc d_World_addLayer_70 ?_
  refine pf_World_105 hc d_World_addLayer_71 hv0 ?_
  exact z_vret hc d_World_addLayer_74 (rV hf hρ)
def f_World_addLayer (w0 : Nat) (x1 : Int32) (σ : Sg) : Option (Unit × Sg) :=
  Option.bind (lp (fun a => b_World_addLayer_5 w0 x1 a.1 a.2) FU (σ.1 1 w0 0 3, σ)) (fun b16 => j_World_addLayer_57 w0 x1 b16.1  b16.2)
theorem ok_World_addLayer (g : Gv) (w0 : Nat) (x1 : Int32) (hv0 : w0 < 3) (σ : Sg) (r : Unit × Sg) (hf : f_World_addLayer w0 x1 σ = some r) : Ok g y_World_addLayer c_World_addLayer 3 none 0 [.ref (gAd g (1, w0, 0)), .int x1] σ (none, r.2) := by
  unfold f_World_addLayer at hf
  refine Ok.of [(0, .ref (gAd g (1, w0, 0))), (1, .int x1)] (by decide) (Nat.le_of_ble_eq_true rfl) rfl ?_
  intro x hc
  have hc : Zc x g c_World_addLayer R_World 3 none 0 := hc
  obtain ⟨ρ, hρ⟩ : ∃ ρ : Option Value × Sg, ρ = (none, r.2) := ⟨_, rfl⟩
  rw [← hρ]
  refine z_aload_n hc d_World_addLayer_0 0 rfl ?_
  refine gf_World_105 hc d_World_addLayer_1 hv0 ?_
  refine z_istore_n (L' := [(2, .int (σ.1 1 w0 0 3)), (0, .ref (gAd g (1, w0, 0))), (1, .int x1)]) hc d_World_addLayer_4 (by decide) rfl ?_
  refine z_sub [1, 2, 0] (L' := [(0, .ref (gAd g (1, w0, 0))), (1, .int x1), (2, .int (σ.1 1 w0 0 3))]) rfl ?_
  obtain ⟨⟨y12, σ13⟩, hl17, hf⟩ := bd hf
  try dsimp only at hf
  refine lp_walk (α := (Int32 × Sg)) (β := (Int32 × Sg)) (body := (fun a : (Int32 × Sg) => b_World_addLayer_5 w0 x1 a.1 a.2)) (In := (fun a : (Int32 × Sg) => Z x g 3 ρ 5 [(0, .ref (gAd g (1, w0, 0))), (1, .int x1), (2, .int a.1)] [] a.2)) (Out := (fun b => Z x g 3 ρ 57 [(0, .ref (gAd g (1, w0, 0))), (1, .int x1), (2, .int b.1)] [] b.2)) (fun a r hb hi ho => sb_World_addLayer_5 hc w0 x1 hv0 a.1 a.2 r hb hi (fun b e => ho _ e)) FU (σ.1 1 w0 0 3, σ) _ hl17 ?_
  dsimp only
  refine z_sub [0, 1, 2] (L' := [(0, .ref (gAd g (1, w0, 0))), (1, .int x1), (2, .int y12)]) rfl ?_
  exact sj_World_addLayer_57 hc w0 x1 y12  hv0  σ13 _ hf hρ
theorem vl_World_108 : VL R_World 108 y_Rug_span c_Rug_span 1 (some .long) 0 := ⟨tb2 115 (by decide +kernel) (by decide +kernel), tb2 116 (by decide +kernel) (by decide +kernel), tb2 117 (by decide +kernel) (by decide +kernel), tb1 9 (by decide +kernel) (by decide +kernel), k_Rug_span, by decide, by decide, by decide +kernel, by decide⟩
theorem cz_World_108 {x : Cx} {g : Gv} {cc : ByteArray} {nL d pc : Nat} {ret : Option FieldType} {ρ : Option Value × Sg} {L : List (Nat × Value)} {st : List Value} {σ : Sg} (hc : Zc x g cc R_World nL ret d) (hd : decode cc pc = .ok (.invokevirtual 108, 3)) (hdd : 4 ≤ d) {w0 : Nat} {c0 : Nat} (hv0 : okR w0 c0) {v : Int64} {σ1 : Sg} (hf : f_Rug_span w0 c0 σ = some (v, σ1)) (hst : (st.map (fun v => v.category)).sum ≤ 8) (k : Z x g nL ρ (pc + 3) L (.long v :: st) σ1) : Z x g nL ρ pc L (.ref (gAd g (2, w0, c0)) :: st) σ := z_callV (ci := 2) (As := []) hc hd vl_World_108 hdd (2, w0, c0) (dm_Rug hv0) rfl rfl (ok_Rug_span g w0 c0 hv0 σ (v, σ1) hf) rfl rfl hst rfl k
theorem vl_World_112 : VL R_World 112 y_World_addLayer c_World_addLayer 3 none 1 := ⟨tb2 119 (by decide +kernel) (by decide +kernel), tb2 121 (by decide +kernel) (by decide +kernel), tbp 1 (by decide +kernel), tb1 8 (by decide +kernel) (by decide +kernel), k_World_addLayer, by decide, by decide, by decide +kernel, by decide⟩
theorem cz_World_112 {x : Cx} {g : Gv} {cc : ByteArray} {nL d pc : Nat} {ret : Option FieldType} {ρ : Option Value × Sg} {L : List (Nat × Value)} {st : List Value} {σ : Sg} (hc : Zc x g cc R_World nL ret d) (hd : decode cc pc = .ok (.invokevirtual 112, 3)) (hdd : 1 ≤ d) {w0 : Nat} {x1 : Int32} (hv0 : w0 < 3) {v : Unit} {σ1 : Sg} (hf : f_World_addLayer w0 x1 σ = some (v, σ1)) (hst : (st.map (fun v => v.category)).sum ≤ 8) (k : Z x g nL ρ (pc + 3) L (st) σ1) : Z x g nL ρ pc L (.int x1 :: .ref (gAd g (1, w0, 0)) :: st) σ := z_callV (ci := 9) (As := [.int x1]) hc hd vl_World_112 hdd (1, w0, 0) (dm_World hv0) rfl rfl (ok_World_addLayer g w0 x1 hv0 σ (v, σ1) hf) rfl rfl hst rfl k
def b_World_survey_7 (w0 : Nat) (x1 : Int32) (σ : Sg) : Option ((Int32 × Sg) ⊕ (Sg)) :=
  (if (σ.1 1 w0 0 0) ≤ x1 then some (.inr σ) else Option.bind (rd x1 8) (fun j1 => b2 (f_Rug_isOut w0 j1 σ) (fun v3 σ4 => (if v3 = (iI 0) then some (.inl (x1 + (iI 1), σ4)) else Option.bind (rd x1 8) (fun j6 => b2 (f_Rug_span w0 j6 σ4) (fun v8 σ9 => Option.bind (rd x1 8) (fun j11 => b2 (f_World_addLayer w0 x1 (upL σ9 14 w0 0 j11 v8)) (fun v13 σ14 => some (.inl (x1 + (iI 1), σ14))))))))))
theorem sb_World_survey_7 {x : Cx} {g : Gv} {ρ : Option Value × Sg} (hc : Zc x g c_World_survey R_World 2 none 4) (w0 : Nat) (hv0 : w0 < 3) (x1 : Int32) (σ : Sg) (r : (Int32 × Sg) ⊕ (Sg)) (hf : b_World_survey_7 w0 x1 σ = some r) (hi : ∀ a', r = .inl a' → Z x g 2 ρ 7 [(0, .ref (gAd g (1, w0, 0))), (1, .int a'.1)] [] a'.2) (he0 : ∀ b, r = .inr b → Z x g 2 ρ 53 [] [] b) : Z x g 2 ρ 7 [(0, .ref (gAd g (1, w0, 0))), (1, .int x1)] [] σ := by
  unfold b_World_survey_7 at hf
  refine z_iload_n hc d_World_survey_7 1 rfl ?_
  refine z_aload_n hc d_World_survey_8 0 rfl ?_
  refine gf_World_31 hc d_World_survey_9 hv0 ?_
  refine z_icmp_ge (tgt := 53) hc d_World_survey_12 (by decide) (fun hq => ?_) (fun hq => ?_)
  · have hf := ifp hq hf
    refine z_sub [] (L' := []) rfl ?_
    exact he0 σ (Option.some.inj hf).symm
  · have hf := ifn hq hf
    refine z_aload_n hc d_World_survey_15 0 rfl ?_
    refine gf_World_11 hc d_World_survey_16 hv0 ?_
    refine z_iload_n hc d_World_survey_19 1 rfl ?_
    obtain ⟨j1, hj2, hf⟩ := bd hf
    refine ald_rugs hc d_World_survey_20 hv0 hj2 ?_
    obtain ⟨v3, σ4, h5, hf⟩ := bd2 hf
    refine cz_World_89 hc d_World_survey_21 (by decide) (okR_of hv0 (rd_lt hj2)) h5 (Nat.le_of_ble_eq_true rfl) ?_
    refine z_if_eq (tgt := 47) hc d_World_survey_24 (by decide) (fun hq => ?_) (fun hq => ?_)
    · have hf := ifp hq hf
      refine z_iinc (v := x1 + (iI 1)) (L' := [(1, .int (x1 + (iI 1))), (0, .ref (gAd g (1, w0, 0)))]) hc d_World_survey_47 1 rfl rfl (by decide) rfl ?_
      refine z_goto (tgt := 7) hc d_World_survey_50 (by decide) ?_
      refine z_sub [1, 0] (L' := [(0, .ref (gAd g (1, w0, 0))), (1, .int (x1 + (iI 1)))]) rfl ?_
      exact hi (x1 + (iI 1), σ4) (Option.some.inj hf).symm
    · have hf := ifn hq hf
      refine z_aload_n hc d_World_survey_27 0 rfl ?_
      refine gf_World_27 hc d_World_survey_28 hv0 ?_
      refine z_iload_n hc d_World_survey_31 1 rfl ?_
      refine z_aload_n hc d_World_survey_32 0 rfl ?_
      refine gf_World_11 hc d_World_survey_33 hv0 ?_
      refine z_iload_n hc d_World_survey_36 1 rfl ?_
      obtain ⟨j6, hj7, hf⟩ := bd hf
      refine ald_rugs hc d_World_survey_37 hv0 hj7 ?_
      obtain ⟨v8, σ9, h10, hf⟩ := bd2 hf
      refine cz_World_108 hc d_World_survey_38 (by decide) (okR_of hv0 (rd_lt hj7)) h10 (Nat.le_of_ble_eq_true rfl) ?_
      obtain ⟨j11, hj12, hf⟩ := bd hf
      refine ast_spans hc d_World_survey_41 hv0 hj12 ?_
      refine z_aload_n hc d_World_survey_42 0 rfl ?_
      refine z_iload_n hc d_World_survey_43 1 rfl ?_
      obtain ⟨v13, σ14, h15, hf⟩ := bd2 hf
      refine cz_World_112 hc d_World_survey_44 (by decide) hv0 h15 (Nat.le_of_ble_eq_true rfl) ?_
      refine z_iinc (v := x1 + (iI 1)) (L' := [(1, .int (x1 + (iI 1))), (0, .ref (gAd g (1, w0, 0)))]) hc d_World_survey_47 1 rfl rfl (by decide) rfl ?_
      refine z_goto (tgt := 7) hc d_World_survey_50 (by decide) ?_
      refine z_sub [1, 0] (L' := [(0, .ref (gAd g (1, w0, 0))), (1, .int (x1 + (iI 1)))]) rfl ?_
      exact hi (x1 + (iI 1), σ14) (Option.some.inj hf).symm
def f_World_survey (w0 : Nat) (σ : Sg) : Option (Unit × Sg) :=
  Option.bind (lp (fun a => b_World_survey_7 w0 a.1 a.2) FU ((iI 0), upI σ 1 w0 0 3 (iI 0))) (fun b18 => some ((), b18))
theorem ok_World_survey (g : Gv) (w0 : Nat) (hv0 : w0 < 3) (σ : Sg) (r : Unit × Sg) (hf : f_World_survey w0 σ = some r) : Ok g y_World_survey c_World_survey 2 none 4 [.ref (gAd g (1, w0, 0))] σ (none, r.2) := by
  unfold f_World_survey at hf
  refine Ok.of [(0, .ref (gAd g (1, w0, 0)))] (by decide) (Nat.le_of_ble_eq_true rfl) rfl ?_
  intro x hc
  have hc : Zc x g c_World_survey R_World 2 none 4 := hc
  obtain ⟨ρ, hρ⟩ : ∃ ρ : Option Value × Sg, ρ = (none, r.2) := ⟨_, rfl⟩
  rw [← hρ]
  refine z_aload_n hc d_World_survey_0 0 rfl ?_
  refine z_iconst (v := (iI 0)) hc d_World_survey_1 (by decide) ?_
  refine pf_World_105 hc d_World_survey_2 hv0 ?_
  refine z_iconst (v := (iI 0)) hc d_World_survey_5 (by decide) ?_
  refine z_istore_n (L' := [(1, .int (iI 0)), (0, .ref (gAd g (1, w0, 0)))]) hc d_World_survey_6 (by decide) rfl ?_
  refine z_sub [1, 0] (L' := [(0, .ref (gAd g (1, w0, 0))), (1, .int (iI 0))]) rfl ?_
  obtain ⟨σ17, hl19, hf⟩ := bd hf
  try dsimp only at hf
  refine lp_walk (α := (Int32 × Sg)) (β := (Sg)) (body := (fun a : (Int32 × Sg) => b_World_survey_7 w0 a.1 a.2)) (In := (fun a : (Int32 × Sg) => Z x g 2 ρ 7 [(0, .ref (gAd g (1, w0, 0))), (1, .int a.1)] [] a.2)) (Out := (fun b => Z x g 2 ρ 53 [] [] b)) (fun a r hb hi ho => sb_World_survey_7 hc w0 hv0 a.1 a.2 r hb hi (fun b e => ho _ e)) FU ((iI 0), upI σ 1 w0 0 3 (iI 0)) _ hl19 ?_
  exact z_vret hc d_World_survey_53 (rV hf hρ)
def f_Long_bitCount_95d88 (x0 : Int64) (σ : Sg) : Option (Int32 × Sg) :=
  some ((((((((((x0 - (((x0.toUInt64 >>> (((iI 1) : Int32).toInt64.toUInt64 &&& Int64.toUInt64 63)).toInt64) &&& (lI 6148914691236517205))) &&& (lI 3689348814741910323)) + ((((x0 - (((x0.toUInt64 >>> (((iI 1) : Int32).toInt64.toUInt64 &&& Int64.toUInt64 63)).toInt64) &&& (lI 6148914691236517205))).toUInt64 >>> (((iI 2) : Int32).toInt64.toUInt64 &&& Int64.toUInt64 63)).toInt64) &&& (lI 3689348814741910323))) + (((((x0 - (((x0.toUInt64 >>> (((iI 1) : Int32).toInt64.toUInt64 &&& Int64.toUInt64 63)).toInt64) &&& (lI 6148914691236517205))) &&& (lI 3689348814741910323)) + ((((x0 - (((x0.toUInt64 >>> (((iI 1) : Int32).toInt64.toUInt64 &&& Int64.toUInt64 63)).toInt64) &&& (lI 6148914691236517205))).toUInt64 >>> (((iI 2) : Int32).toInt64.toUInt64 &&& Int64.toUInt64 63)).toInt64) &&& (lI 3689348814741910323))).toUInt64 >>> (((iI 4) : Int32).toInt64.toUInt64 &&& Int64.toUInt64 63)).toInt64)) &&& (lI 1085102592571150095)) + (((((((x0 - (((x0.toUInt64 >>> (((iI 1) : Int32).toInt64.toUInt64 &&& Int64.toUInt64 63)).toInt64) &&& (lI 6148914691236517205))) &&& (lI 3689348814741910323)) + ((((x0 - (((x0.toUInt64 >>> (((iI 1) : Int32).toInt64.toUInt64 &&& Int64.toUInt64 63)).toInt64) &&& (lI 6148914691236517205))).toUInt64 >>> (((iI 2) : Int32).toInt64.toUInt64 &&& Int64.toUInt64 63)).toInt64) &&& (lI 3689348814741910323))) + (((((x0 - (((x0.toUInt64 >>> (((iI 1) : Int32).toInt64.toUInt64 &&& Int64.toUInt64 63)).toInt64) &&& (lI 6148914691236517205))) &&& (lI 3689348814741910323)) + ((((x0 - (((x0.toUInt64 >>> (((iI 1) : Int32).toInt64.toUInt64 &&& Int64.toUInt64 63)).toInt64) &&& (lI 6148914691236517205))).toUInt64 >>> (((iI 2) : Int32).toInt64.toUInt64 &&& Int64.toUInt64 63)).toInt64) &&& (lI 3689348814741910323))).toUInt64 >>> (((iI 4) : Int32).toInt64.toUInt64 &&& Int64.toUInt64 63)).toInt64)) &&& (lI 1085102592571150095)).toUInt64 >>> (((iI 8) : Int32).toInt64.toUInt64 &&& Int64.toUInt64 63)).toInt64)) + ((((((((x0 - (((x0.toUInt64 >>> (((iI 1) : Int32).toInt64.toUInt64 &&& Int64.toUInt64 63)).toInt64) &&& (lI 6148914691236517205))) &&& (lI 3689348814741910323)) + ((((x0 - (((x0.toUInt64 >>> (((iI 1) : Int32).toInt64.toUInt64 &&& Int64.toUInt64 63)).toInt64) &&& (lI 6148914691236517205))).toUInt64 >>> (((iI 2) : Int32).toInt64.toUInt64 &&& Int64.toUInt64 63)).toInt64) &&& (lI 3689348814741910323))) + (((((x0 - (((x0.toUInt64 >>> (((iI 1) : Int32).toInt64.toUInt64 &&& Int64.toUInt64 63)).toInt64) &&& (lI 6148914691236517205))) &&& (lI 3689348814741910323)) + ((((x0 - (((x0.toUInt64 >>> (((iI 1) : Int32).toInt64.toUInt64 &&& Int64.toUInt64 63)).toInt64) &&& (lI 6148914691236517205))).toUInt64 >>> (((iI 2) : Int32).toInt64.toUInt64 &&& Int64.toUInt64 63)).toInt64) &&& (lI 3689348814741910323))).toUInt64 >>> (((iI 4) : Int32).toInt64.toUInt64 &&& Int64.toUInt64 63)).toInt64)) &&& (lI 1085102592571150095)) + (((((((x0 - (((x0.toUInt64 >>> (((iI 1) : Int32).toInt64.toUInt64 &&& Int64.toUInt64 63)).toInt64) &&& (lI 6148914691236517205))) &&& (lI 3689348814741910323)) + ((((x0 - (((x0.toUInt64 >>> (((iI 1) : Int32).toInt64.toUInt64 &&& Int64.toUInt64 63)).toInt64) &&& (lI 6148914691236517205))).toUInt64 >>> (((iI 2) : Int32).toInt64.toUInt64 &&& Int64.toUInt64 63)).toInt64) &&& (lI 3689348814741910323))) + (((((x0 - (((x0.toUInt64 >>> (((iI 1) : Int32).toInt64.toUInt64 &&& Int64.toUInt64 63)).toInt64) &&& (lI 6148914691236517205))) &&& (lI 3689348814741910323)) + ((((x0 - (((x0.toUInt64 >>> (((iI 1) : Int32).toInt64.toUInt64 &&& Int64.toUInt64 63)).toInt64) &&& (lI 6148914691236517205))).toUInt64 >>> (((iI 2) : Int32).toInt64.toUInt64 &&& Int64.toUInt64 63)).toInt64) &&& (lI 3689348814741910323))).toUInt64 >>> (((iI 4) : Int32).toInt64.toUInt64 &&& Int64.toUInt64 63)).toInt64)) &&& (lI 1085102592571150095)).toUInt64 >>> (((iI 8) : Int32).toInt64.toUInt64 &&& Int64.toUInt64 63)).toInt64)).toUInt64 >>> (((iI 16) : Int32).toInt64.toUInt64 &&& Int64.toUInt64 63)).toInt64)) + (((((((((x0 - (((x0.toUInt64 >>> (((iI 1) : Int32).toInt64.toUInt64 &&& Int64.toUInt64 63)).toInt64) &&& (lI 6148914691236517205))) &&& (lI 3689348814741910323)) + ((((x0 - (((x0.toUInt64 >>> (((iI 1) : Int32).toInt64.toUInt64 &&& Int64.toUInt64 63)).toInt64) &&& (lI 6148914691236517205))).toUInt64 >>> (((iI 2) : Int32).toInt64.toUInt64 &&& Int64.toUInt64 63)).toInt64) &&& (lI 3689348814741910323))) + (((((x0 - (((x0.toUInt64 >>> (((iI 1) : Int32).toInt64.toUInt64 &&& Int64.toUInt64 63)).toInt64) &&& (lI 6148914691236517205))) &&& (lI 3689348814741910323)) + ((((x0 - (((x0.toUInt64 >>> (((iI 1) : Int32).toInt64.toUInt64 &&& Int64.toUInt64 63)).toInt64) &&& (lI 6148914691236517205))).toUInt64 >>> (((iI 2) : Int32).toInt64.toUInt64 &&& Int64.toUInt64 63)).toInt64) &&& (lI 3689348814741910323))).toUInt64 >>> (((iI 4) : Int32).toInt64.toUInt64 &&& Int64.toUInt64 63)).toInt64)) &&& (lI 1085102592571150095)) + (((((((x0 - (((x0.toUInt64 >>> (((iI 1) : Int32).toInt64.toUInt64 &&& Int64.toUInt64 63)).toInt64) &&& (lI 6148914691236517205))) &&& (lI 3689348814741910323)) + ((((x0 - (((x0.toUInt64 >>> (((iI 1) : Int32).toInt64.toUInt64 &&& Int64.toUInt64 63)).toInt64) &&& (lI 6148914691236517205))).toUInt64 >>> (((iI 2) : Int32).toInt64.toUInt64 &&& Int64.toUInt64 63)).toInt64) &&& (lI 3689348814741910323))) + (((((x0 - (((x0.toUInt64 >>> (((iI 1) : Int32).toInt64.toUInt64 &&& Int64.toUInt64 63)).toInt64) &&& (lI 6148914691236517205))) &&& (lI 3689348814741910323)) + ((((x0 - (((x0.toUInt64 >>> (((iI 1) : Int32).toInt64.toUInt64 &&& Int64.toUInt64 63)).toInt64) &&& (lI 6148914691236517205))).toUInt64 >>> (((iI 2) : Int32).toInt64.toUInt64 &&& Int64.toUInt64 63)).toInt64) &&& (lI 3689348814741910323))).toUInt64 >>> (((iI 4) : Int32).toInt64.toUInt64 &&& Int64.toUInt64 63)).toInt64)) &&& (lI 1085102592571150095)).toUInt64 >>> (((iI 8) : Int32).toInt64.toUInt64 &&& Int64.toUInt64 63)).toInt64)) + ((((((((x0 - (((x0.toUInt64 >>> (((iI 1) : Int32).toInt64.toUInt64 &&& Int64.toUInt64 63)).toInt64) &&& (lI 6148914691236517205))) &&& (lI 3689348814741910323)) + ((((x0 - (((x0.toUInt64 >>> (((iI 1) : Int32).toInt64.toUInt64 &&& Int64.toUInt64 63)).toInt64) &&& (lI 6148914691236517205))).toUInt64 >>> (((iI 2) : Int32).toInt64.toUInt64 &&& Int64.toUInt64 63)).toInt64) &&& (lI 3689348814741910323))) + (((((x0 - (((x0.toUInt64 >>> (((iI 1) : Int32).toInt64.toUInt64 &&& Int64.toUInt64 63)).toInt64) &&& (lI 6148914691236517205))) &&& (lI 3689348814741910323)) + ((((x0 - (((x0.toUInt64 >>> (((iI 1) : Int32).toInt64.toUInt64 &&& Int64.toUInt64 63)).toInt64) &&& (lI 6148914691236517205))).toUInt64 >>> (((iI 2) : Int32).toInt64.toUInt64 &&& Int64.toUInt64 63)).toInt64) &&& (lI 3689348814741910323))).toUInt64 >>> (((iI 4) : Int32).toInt64.toUInt64 &&& Int64.toUInt64 63)).toInt64)) &&& (lI 1085102592571150095)) + (((((((x0 - (((x0.toUInt64 >>> (((iI 1) : Int32).toInt64.toUInt64 &&& Int64.toUInt64 63)).toInt64) &&& (lI 6148914691236517205))) &&& (lI 3689348814741910323)) + ((((x0 - (((x0.toUInt64 >>> (((iI 1) : Int32).toInt64.toUInt64 &&& Int64.toUInt64 63)).toInt64) &&& (lI 6148914691236517205))).toUInt64 >>> (((iI 2) : Int32).toInt64.toUInt64 &&& Int64.toUInt64 63)).toInt64) &&& (lI 3689348814741910323))) + (((((x0 - (((x0.toUInt64 >>> (((iI 1) : Int32).toInt64.toUInt64 &&& Int64.toUInt64 63)).toInt64) &&& (lI 6148914691236517205))) &&& (lI 3689348814741910323)) + ((((x0 - (((x0.toUInt64 >>> (((iI 1) : Int32).toInt64.toUInt64 &&& Int64.toUInt64 63)).toInt64) &&& (lI 6148914691236517205))).toUInt64 >>> (((iI 2) : Int32).toInt64.toUInt64 &&& Int64.toUInt64 63)).toInt64) &&& (lI 3689348814741910323))).toUInt64 >>> (((iI 4) : Int32).toInt64.toUInt64 &&& Int64.toUInt64 63)).toInt64)) &&& (lI 1085102592571150095)).toUInt64 >>> (((iI 8) : Int32).toInt64.toUInt64 &&& Int64.toUInt64 63)).toInt64)).toUInt64 >>> (((iI 16) : Int32).toInt64.toUInt64 &&& Int64.toUInt64 63)).toInt64)).toUInt64 >>> (((iI 32) : Int32).toInt64.toUInt64 &&& Int64.toUInt64 63)).toInt64) : Int64).toInt32) &&& (iI 127), σ)
theorem ok_Long_bitCount_95d88 (g : Gv) (x0 : Int64) (σ : Sg) (r : Int32 × Sg) (hf : f_Long_bitCount_95d88 x0 σ = some r) : Ok g y_Long_bitCount_95d88 c_Long_bitCount_95d88 2 (some .int) 0 [.long x0] σ (some (.int r.1), r.2) := by
  unfold f_Long_bitCount_95d88 at hf
  refine Ok.of [(0, .long x0)] (by decide) (Nat.le_of_ble_eq_true rfl) rfl ?_
  intro x hc
  have hc : Zc x g c_Long_bitCount_95d88 R_Long 2 (some .int) 0 := hc
  obtain ⟨ρ, hρ⟩ : ∃ ρ : Option Value × Sg, ρ = (some (.int r.1), r.2) := ⟨_, rfl⟩
  rw [← hρ]
  refine z_lload_n hc d_Long_bitCount_95d88_0 0 rfl ?_
  refine z_lload_n hc d_Long_bitCount_95d88_1 0 rfl ?_
  refine z_iconst (v := (iI 1)) hc d_Long_bitCount_95d88_2 (by decide) ?_
  refine z_lushr hc d_Long_bitCount_95d88_3 ?_
  refine z_ldc2 (v := (lI 6148914691236517205)) hc cl_Long_314 d_Long_bitCount_95d88_4 ?_
  refine z_land hc d_Long_bitCount_95d88_7 ?_
  refine z_lsub hc d_Long_bitCount_95d88_8 ?_
  refine z_lstore_n (L' := [(0, .long (x0 - (((x0.toUInt64 >>> (((iI 1) : Int32).toInt64.toUInt64 &&& Int64.toUInt64 63)).toInt64) &&& (lI 6148914691236517205))))]) hc d_Long_bitCount_95d88_9 (by decide) rfl ?_
  refine z_lload_n hc d_Long_bitCount_95d88_10 0 rfl ?_
  refine z_ldc2 (v := (lI 3689348814741910323)) hc cl_Long_316 d_Long_bitCount_95d88_11 ?_
  refine z_land hc d_Long_bitCount_95d88_14 ?_
  refine z_lload_n hc d_Long_bitCount_95d88_15 0 rfl ?_
  refine z_iconst (v := (iI 2)) hc d_Long_bitCount_95d88_16 (by decide) ?_
  refine z_lushr hc d_Long_bitCount_95d88_17 ?_
  refine z_ldc2 (v := (lI 3689348814741910323)) hc cl_Long_316 d_Long_bitCount_95d88_18 ?_
  refine z_land hc d_Long_bitCount_95d88_21 ?_
  refine z_ladd hc d_Long_bitCount_95d88_22 ?_
  refine z_lstore_n (L' := [(0, .long (((x0 - (((x0.toUInt64 >>> (((iI 1) : Int32).toInt64.toUInt64 &&& Int64.toUInt64 63)).toInt64) &&& (lI 6148914691236517205))) &&& (lI 3689348814741910323)) + ((((x0 - (((x0.toUInt64 >>> (((iI 1) : Int32).toInt64.toUInt64 &&& Int64.toUInt64 63)).toInt64) &&& (lI 6148914691236517205))).toUInt64 >>> (((iI 2) : Int32).toInt64.toUInt64 &&& Int64.toUInt64 63)).toInt64) &&& (lI 3689348814741910323))))]) hc d_Long_bitCount_95d88_23 (by decide) rfl ?_
  refine z_lload_n hc d_Long_bitCount_95d88_24 0 rfl ?_
  refine z_lload_n hc d_Long_bitCount_95d88_25 0 rfl ?_
  refine z_iconst (v := (iI 4)) hc d_Long_bitCount_95d88_26 (by decide) ?_
  refine z_lushr hc d_Long_bitCount_95d88_27 ?_
  refine z_ladd hc d_Long_bitCount_95d88_28 ?_
  refine z_ldc2 (v := (lI 1085102592571150095)) hc cl_Long_318 d_Long_bitCount_95d88_29 ?_
  refine z_land hc d_Long_bitCount_95d88_32 ?_
  refine z_lstore_n (L' := [(0, .long (((((x0 - (((x0.toUInt64 >>> (((iI 1) : Int32).toInt64.toUInt64 &&& Int64.toUInt64 63)).toInt64) &&& (lI 6148914691236517205))) &&& (lI 3689348814741910323)) + ((((x0 - (((x0.toUInt64 >>> (((iI 1) : Int32).toInt64.toUInt64 &&& Int64.toUInt64 63)).toInt64) &&& (lI 6148914691236517205))).toUInt64 >>> (((iI 2) : Int32).toInt64.toUInt64 &&& Int64.toUInt64 63)).toInt64) &&& (lI 3689348814741910323))) + (((((x0 - (((x0.toUInt64 >>> (((iI 1) : Int32).toInt64.toUInt64 &&& Int64.toUInt64 63)).toInt64) &&& (lI 6148914691236517205))) &&& (lI 3689348814741910323)) + ((((x0 - (((x0.toUInt64 >>> (((iI 1) : Int32).toInt64.toUInt64 &&& Int64.toUInt64 63)).toInt64) &&& (lI 6148914691236517205))).toUInt64 >>> (((iI 2) : Int32).toInt64.toUInt64 &&& Int64.toUInt64 63)).toInt64) &&& (lI 3689348814741910323))).toUInt64 >>> (((iI 4) : Int32).toInt64.toUInt64 &&& Int64.toUInt64 63)).toInt64)) &&& (lI 1085102592571150095)))]) hc d_Long_bitCount_95d88_33 (by decide) rfl ?_
  refine z_lload_n hc d_Long_bitCount_95d88_34 0 rfl ?_
  refine z_lload_n hc d_Long_bitCount_95d88_35 0 rfl ?_
  refine z_bipush (v := (iI 8)) hc d_Long_bitCount_95d88_36 (by decide) ?_
  refine z_lushr hc d_Long_bitCount_95d88_38 ?_
  refine z_ladd hc d_Long_bitCount_95d88_39 ?_
  refine z_lstore_n (L' := [(0, .long ((((((x0 - (((x0.toUInt64 >>> (((iI 1) : Int32).toInt64.toUInt64 &&& Int64.toUInt64 63)).toInt64) &&& (lI 6148914691236517205))) &&& (lI 3689348814741910323)) + ((((x0 - (((x0.toUInt64 >>> (((iI 1) : Int32).toInt64.toUInt64 &&& Int64.toUInt64 63)).toInt64) &&& (lI 6148914691236517205))).toUInt64 >>> (((iI 2) : Int32).toInt64.toUInt64 &&& Int64.toUInt64 63)).toInt64) &&& (lI 3689348814741910323))) + (((((x0 - (((x0.toUInt64 >>> (((iI 1) : Int32).toInt64.toUInt64 &&& Int64.toUInt64 63)).toInt64) &&& (lI 6148914691236517205))) &&& (lI 3689348814741910323)) + ((((x0 - (((x0.toUInt64 >>> (((iI 1) : Int32).toInt64.toUInt64 &&& Int64.toUInt64 63)).toInt64) &&& (lI 6148914691236517205))).toUInt64 >>> (((iI 2) : Int32).toInt64.toUInt64 &&& Int64.toUInt64 63)).toInt64) &&& (lI 3689348814741910323))).toUInt64 >>> (((iI 4) : Int32).toInt64.toUInt64 &&& Int64.toUInt64 63)).toInt64)) &&& (lI 1085102592571150095)) + (((((((x0 - (((x0.toUInt64 >>> (((iI 1) : Int32).toInt64.toUInt64 &&& Int64.toUInt64 63)).toInt64) &&& (lI 6148914691236517205))) &&& (lI 3689348814741910323)) + ((((x0 - (((x0.toUInt64 >>> (((iI 1) : Int32).toInt64.toUInt64 &&& Int64.toUInt64 63)).toInt64) &&& (lI 6148914691236517205))).toUInt64 >>> (((iI 2) : Int32).toInt64.toUInt64 &&& Int64.toUInt64 63)).toInt64) &&& (lI 3689348814741910323))) + (((((x0 - (((x0.toUInt64 >>> (((iI 1) : Int32).toInt64.toUInt64 &&& Int64.toUInt64 63)).toInt64) &&& (lI 6148914691236517205))) &&& (lI 3689348814741910323)) + ((((x0 - (((x0.toUInt64 >>> (((iI 1) : Int32).toInt64.toUInt64 &&& Int64.toUInt64 63)).toInt64) &&& (lI 6148914691236517205))).toUInt64 >>> (((iI 2) : Int32).toInt64.toUInt64 &&& Int64.toUInt64 63)).toInt64) &&& (lI 3689348814741910323))).toUInt64 >>> (((iI 4) : Int32).toInt64.toUInt64 &&& Int64.toUInt64 63)).toInt64)) &&& (lI 1085102592571150095)).toUInt64 >>> (((iI 8) : Int32).toInt64.toUInt64 &&& Int64.toUInt64 63)).toInt64)))]) hc d_Long_bitCount_95d88_40 (by decide) rfl ?_
  refine z_lload_n hc d_Long_bitCount_95d88_41 0 rfl ?_
  refine z_lload_n hc d_Long_bitCount_95d88_42 0 rfl ?_
  refine z_bipush (v := (iI 16)) hc d_Long_bitCount_95d88_43 (by decide) ?_
  refine z_lushr hc d_Long_bitCount_95d88_45 ?_
  refine z_ladd hc d_Long_bitCount_95d88_46 ?_
  refine z_lstore_n (L' := [(0, .long (((((((x0 - (((x0.toUInt64 >>> (((iI 1) : Int32).toInt64.toUInt64 &&& Int64.toUInt64 63)).toInt64) &&& (lI 6148914691236517205))) &&& (lI 3689348814741910323)) + ((((x0 - (((x0.toUInt64 >>> (((iI 1) : Int32).toInt64.toUInt64 &&& Int64.toUInt64 63)).toInt64) &&& (lI 6148914691236517205))).toUInt64 >>> (((iI 2) : Int32).toInt64.toUInt64 &&& Int64.toUInt64 63)).toInt64) &&& (lI 3689348814741910323))) + (((((x0 - (((x0.toUInt64 >>> (((iI 1) : Int32).toInt64.toUInt64 &&& Int64.toUInt64 63)).toInt64) &&& (lI 6148914691236517205))) &&& (lI 3689348814741910323)) + ((((x0 - (((x0.toUInt64 >>> (((iI 1) : Int32).toInt64.toUInt64 &&& Int64.toUInt64 63)).toInt64) &&& (lI 6148914691236517205))).toUInt64 >>> (((iI 2) : Int32).toInt64.toUInt64 &&& Int64.toUInt64 63)).toInt64) &&& (lI 3689348814741910323))).toUInt64 >>> (((iI 4) : Int32).toInt64.toUInt64 &&& Int64.toUInt64 63)).toInt64)) &&& (lI 1085102592571150095)) + (((((((x0 - (((x0.toUInt64 >>> (((iI 1) : Int32).toInt64.toUInt64 &&& Int64.toUInt64 63)).toInt64) &&& (lI 6148914691236517205))) &&& (lI 3689348814741910323)) + ((((x0 - (((x0.toUInt64 >>> (((iI 1) : Int32).toInt64.toUInt64 &&& Int64.toUInt64 63)).toInt64) &&& (lI 6148914691236517205))).toUInt64 >>> (((iI 2) : Int32).toInt64.toUInt64 &&& Int64.toUInt64 63)).toInt64) &&& (lI 3689348814741910323))) + (((((x0 - (((x0.toUInt64 >>> (((iI 1) : Int32).toInt64.toUInt64 &&& Int64.toUInt64 63)).toInt64) &&& (lI 6148914691236517205))) &&& (lI 3689348814741910323)) + ((((x0 - (((x0.toUInt64 >>> (((iI 1) : Int32).toInt64.toUInt64 &&& Int64.toUInt64 63)).toInt64) &&& (lI 6148914691236517205))).toUInt64 >>> (((iI 2) : Int32).toInt64.toUInt64 &&& Int64.toUInt64 63)).toInt64) &&& (lI 3689348814741910323))).toUInt64 >>> (((iI 4) : Int32).toInt64.toUInt64 &&& Int64.toUInt64 63)).toInt64)) &&& (lI 1085102592571150095)).toUInt64 >>> (((iI 8) : Int32).toInt64.toUInt64 &&& Int64.toUInt64 63)).toInt64)) + ((((((((x0 - (((x0.toUInt64 >>> (((iI 1) : Int32).toInt64.toUInt64 &&& Int64.toUInt64 63)).toInt64) &&& (lI 6148914691236517205))) &&& (lI 3689348814741910323)) + ((((x0 - (((x0.toUInt64 >>> (((iI 1) : Int32).toInt64.toUInt64 &&& Int64.toUInt64 63)).toInt64) &&& (lI 6148914691236517205))).toUInt64 >>> (((iI 2) : Int32).toInt64.toUInt64 &&& Int64.toUInt64 63)).toInt64) &&& (lI 3689348814741910323))) + (((((x0 - (((x0.toUInt64 >>> (((iI 1) : Int32).toInt64.toUInt64 &&& Int64.toUInt64 63)).toInt64) &&& (lI 6148914691236517205))) &&& (lI 3689348814741910323)) + ((((x0 - (((x0.toUInt64 >>> (((iI 1) : Int32).toInt64.toUInt64 &&& Int64.toUInt64 63)).toInt64) &&& (lI 6148914691236517205))).toUInt64 >>> (((iI 2) : Int32).toInt64.toUInt64 &&& Int64.toUInt64 63)).toInt64) &&& (lI 3689348814741910323))).toUInt64 >>> (((iI 4) : Int32).toInt64.toUInt64 &&& Int64.toUInt64 63)).toInt64)) &&& (lI 1085102592571150095)) + (((((((x0 - (((x0.toUInt64 >>> (((iI 1) : Int32).toInt64.toUInt64 &&& Int64.toUInt64 63)).toInt64) &&& (lI 6148914691236517205))) &&& (lI 3689348814741910323)) + ((((x0 - (((x0.toUInt64 >>> (((iI 1) : Int32).toInt64.toUInt64 &&& Int64.toUInt64 63)).toInt64) &&& (lI 6148914691236517205))).toUInt64 >>> (((iI 2) : Int32).toInt64.toUInt64 &&& Int64.toUInt64 63)).toInt64) &&& (lI 3689348814741910323))) + (((((x0 - (((x0.toUInt64 >>> (((iI 1) : Int32).toInt64.toUInt64 &&& Int64.toUInt64 63)).toInt64) &&& (lI 6148914691236517205))) &&& (lI 3689348814741910323)) + ((((x0 - (((x0.toUInt64 >>> (((iI 1) : Int32).toInt64.toUInt64 &&& Int64.toUInt64 63)).toInt64) &&& (lI 6148914691236517205))).toUInt64 >>> (((iI 2) : Int32).toInt64.toUInt64 &&& Int64.toUInt64 63)).toInt64) &&& (lI 3689348814741910323))).toUInt64 >>> (((iI 4) : Int32).toInt64.toUInt64 &&& Int64.toUInt64 63)).toInt64)) &&& (lI 1085102592571150095)).toUInt64 >>> (((iI 8) : Int32).toInt64.toUInt64 &&& Int64.toUInt64 63)).toInt64)).toUInt64 >>> (((iI 16) : Int32).toInt64.toUInt64 &&& Int64.toUInt64 63)).toInt64)))]) hc d_Long_bitCount_95d88_47 (by decide) rfl ?_
  refine z_lload_n hc d_Long_bitCount_95d88_48 0 rfl ?_
  refine z_lload_n hc d_Long_bitCount_95d88_49 0 rfl ?_
  refine z_bipush (v := (iI 32)) hc d_Long_bitCount_95d88_50 (by decide) ?_
  refine z_lushr hc d_Long_bitCount_95d88_52 ?_
  refine z_ladd hc d_Long_bitCount_95d88_53 ?_
  refine z_lstore_n (L' := [(0, .long ((((((((x0 - (((x0.toUInt64 >>> (((iI 1) : Int32).toInt64.toUInt64 &&& Int64.toUInt64 63)).toInt64) &&& (lI 6148914691236517205))) &&& (lI 3689348814741910323)) + ((((x0 - (((x0.toUInt64 >>> (((iI 1) : Int32).toInt64.toUInt64 &&& Int64.toUInt64 63)).toInt64) &&& (lI 6148914691236517205))).toUInt64 >>> (((iI 2) : Int32).toInt64.toUInt64 &&& Int64.toUInt64 63)).toInt64) &&& (lI 3689348814741910323))) + (((((x0 - (((x0.toUInt64 >>> (((iI 1) : Int32).toInt64.toUInt64 &&& Int64.toUInt64 63)).toInt64) &&& (lI 6148914691236517205))) &&& (lI 3689348814741910323)) + ((((x0 - (((x0.toUInt64 >>> (((iI 1) : Int32).toInt64.toUInt64 &&& Int64.toUInt64 63)).toInt64) &&& (lI 6148914691236517205))).toUInt64 >>> (((iI 2) : Int32).toInt64.toUInt64 &&& Int64.toUInt64 63)).toInt64) &&& (lI 3689348814741910323))).toUInt64 >>> (((iI 4) : Int32).toInt64.toUInt64 &&& Int64.toUInt64 63)).toInt64)) &&& (lI 1085102592571150095)) + (((((((x0 - (((x0.toUInt64 >>> (((iI 1) : Int32).toInt64.toUInt64 &&& Int64.toUInt64 63)).toInt64) &&& (lI 6148914691236517205))) &&& (lI 3689348814741910323)) + ((((x0 - (((x0.toUInt64 >>> (((iI 1) : Int32).toInt64.toUInt64 &&& Int64.toUInt64 63)).toInt64) &&& (lI 6148914691236517205))).toUInt64 >>> (((iI 2) : Int32).toInt64.toUInt64 &&& Int64.toUInt64 63)).toInt64) &&& (lI 3689348814741910323))) + (((((x0 - (((x0.toUInt64 >>> (((iI 1) : Int32).toInt64.toUInt64 &&& Int64.toUInt64 63)).toInt64) &&& (lI 6148914691236517205))) &&& (lI 3689348814741910323)) + ((((x0 - (((x0.toUInt64 >>> (((iI 1) : Int32).toInt64.toUInt64 &&& Int64.toUInt64 63)).toInt64) &&& (lI 6148914691236517205))).toUInt64 >>> (((iI 2) : Int32).toInt64.toUInt64 &&& Int64.toUInt64 63)).toInt64) &&& (lI 3689348814741910323))).toUInt64 >>> (((iI 4) : Int32).toInt64.toUInt64 &&& Int64.toUInt64 63)).toInt64)) &&& (lI 1085102592571150095)).toUInt64 >>> (((iI 8) : Int32).toInt64.toUInt64 &&& Int64.toUInt64 63)).toInt64)) + ((((((((x0 - (((x0.toUInt64 >>> (((iI 1) : Int32).toInt64.toUInt64 &&& Int64.toUInt64 63)).toInt64) &&& (lI 6148914691236517205))) &&& (lI 3689348814741910323)) + ((((x0 - (((x0.toUInt64 >>> (((iI 1) : Int32).toInt64.toUInt64 &&& Int64.toUInt64 63)).toInt64) &&& (lI 6148914691236517205))).toUInt64 >>> (((iI 2) : Int32).toInt64.toUInt64 &&& Int64.toUInt64 63)).toInt64) &&& (lI 3689348814741910323))) + (((((x0 - (((x0.toUInt64 >>> (((iI 1) : Int32).toInt64.toUInt64 &&& Int64.toUInt64 63)).toInt64) &&& (lI 6148914691236517205))) &&& (lI 3689348814741910323)) + ((((x0 - (((x0.toUInt64 >>> (((iI 1) : Int32).toInt64.toUInt64 &&& Int64.toUInt64 63)).toInt64) &&& (lI 6148914691236517205))).toUInt64 >>> (((iI 2) : Int32).toInt64.toUInt64 &&& Int64.toUInt64 63)).toInt64) &&& (lI 3689348814741910323))).toUInt64 >>> (((iI 4) : Int32).toInt64.toUInt64 &&& Int64.toUInt64 63)).toInt64)) &&& (lI 1085102592571150095)) + (((((((x0 - (((x0.toUInt64 >>> (((iI 1) : Int32).toInt64.toUInt64 &&& Int64.toUInt64 63)).toInt64) &&& (lI 6148914691236517205))) &&& (lI 3689348814741910323)) + ((((x0 - (((x0.toUInt64 >>> (((iI 1) : Int32).toInt64.toUInt64 &&& Int64.toUInt64 63)).toInt64) &&& (lI 6148914691236517205))).toUInt64 >>> (((iI 2) : Int32).toInt64.toUInt64 &&& Int64.toUInt64 63)).toInt64) &&& (lI 3689348814741910323))) + (((((x0 - (((x0.toUInt64 >>> (((iI 1) : Int32).toInt64.toUInt64 &&& Int64.toUInt64 63)).toInt64) &&& (lI 6148914691236517205))) &&& (lI 3689348814741910323)) + ((((x0 - (((x0.toUInt64 >>> (((iI 1) : Int32).toInt64.toUInt64 &&& Int64.toUInt64 63)).toInt64) &&& (lI 6148914691236517205))).toUInt64 >>> (((iI 2) : Int32).toInt64.toUInt64 &&& Int64.toUInt64 63)).toInt64) &&& (lI 3689348814741910323))).toUInt64 >>> (((iI 4) : Int32).toInt64.toUInt64 &&& Int64.toUInt64 63)).toInt64)) &&& (lI 1085102592571150095)).toUInt64 >>> (((iI 8) : Int32).toInt64.toUInt64 &&& Int64.toUInt64 63)).toInt64)).toUInt64 >>> (((iI 16) : Int32).toInt64.toUInt64 &&& Int64.toUInt64 63)).toInt64)) + (((((((((x0 - (((x0.toUInt64 >>> (((iI 1) : Int32).toInt64.toUInt64 &&& Int64.toUInt64 63)).toInt64) &&& (lI 6148914691236517205))) &&& (lI 3689348814741910323)) + ((((x0 - (((x0.toUInt64 >>> (((iI 1) : Int32).toInt64.toUInt64 &&& Int64.toUInt64 63)).toInt64) &&& (lI 6148914691236517205))).toUInt64 >>> (((iI 2) : Int32).toInt64.toUInt64 &&& Int64.toUInt64 63)).toInt64) &&& (lI 3689348814741910323))) + (((((x0 - (((x0.toUInt64 >>> (((iI 1) : Int32).toInt64.toUInt64 &&& Int64.toUInt64 63)).toInt64) &&& (lI 6148914691236517205))) &&& (lI 3689348814741910323)) + ((((x0 - (((x0.toUInt64 >>> (((iI 1) : Int32).toInt64.toUInt64 &&& Int64.toUInt64 63)).toInt64) &&& (lI 6148914691236517205))).toUInt64 >>> (((iI 2) : Int32).toInt64.toUInt64 &&& Int64.toUInt64 63)).toInt64) &&& (lI 3689348814741910323))).toUInt64 >>> (((iI 4) : Int32).toInt64.toUInt64 &&& Int64.toUInt64 63)).toInt64)) &&& (lI 1085102592571150095)) + (((((((x0 - (((x0.toUInt64 >>> (((iI 1) : Int32).toInt64.toUInt64 &&& Int64.toUInt64 63)).toInt64) &&& (lI 6148914691236517205))) &&& (lI 3689348814741910323)) + ((((x0 - (((x0.toUInt64 >>> (((iI 1) : Int32).toInt64.toUInt64 &&& Int64.toUInt64 63)).toInt64) &&& (lI 6148914691236517205))).toUInt64 >>> (((iI 2) : Int32).toInt64.toUInt64 &&& Int64.toUInt64 63)).toInt64) &&& (lI 3689348814741910323))) + (((((x0 - (((x0.toUInt64 >>> (((iI 1) : Int32).toInt64.toUInt64 &&& Int64.toUInt64 63)).toInt64) &&& (lI 6148914691236517205))) &&& (lI 3689348814741910323)) + ((((x0 - (((x0.toUInt64 >>> (((iI 1) : Int32).toInt64.toUInt64 &&& Int64.toUInt64 63)).toInt64) &&& (lI 6148914691236517205))).toUInt64 >>> (((iI 2) : Int32).toInt64.toUInt64 &&& Int64.toUInt64 63)).toInt64) &&& (lI 3689348814741910323))).toUInt64 >>> (((iI 4) : Int32).toInt64.toUInt64 &&& Int64.toUInt64 63)).toInt64)) &&& (lI 1085102592571150095)).toUInt64 >>> (((iI 8) : Int32).toInt64.toUInt64 &&& Int64.toUInt64 63)).toInt64)) + ((((((((x0 - (((x0.toUInt64 >>> (((iI 1) : Int32).toInt64.toUInt64 &&& Int64.toUInt64 63)).toInt64) &&& (lI 6148914691236517205))) &&& (lI 3689348814741910323)) + ((((x0 - (((x0.toUInt64 >>> (((iI 1) : Int32).toInt64.toUInt64 &&& Int64.toUInt64 63)).toInt64) &&& (lI 6148914691236517205))).toUInt64 >>> (((iI 2) : Int32).toInt64.toUInt64 &&& Int64.toUInt64 63)).toInt64) &&& (lI 3689348814741910323))) + (((((x0 - (((x0.toUInt64 >>> (((iI 1) : Int32).toInt64.toUInt64 &&& Int64.toUInt64 63)).toInt64) &&& (lI 6148914691236517205))) &&& (lI 3689348814741910323)) + ((((x0 - (((x0.toUInt64 >>> (((iI 1) : Int32).toInt64.toUInt64 &&& Int64.toUInt64 63)).toInt64) &&& (lI 6148914691236517205))).toUInt64 >>> (((iI 2) : Int32).toInt64.toUInt64 &&& Int64.toUInt64 63)).toInt64) &&& (lI 3689348814741910323))).toUInt64 >>> (((iI 4) : Int32).toInt64.toUInt64 &&& Int64.toUInt64 63)).toInt64)) &&& (lI 1085102592571150095)) + (((((((x0 - (((x0.toUInt64 >>> (((iI 1) : Int32).toInt64.toUInt64 &&& Int64.toUInt64 63)).toInt64) &&& (lI 6148914691236517205))) &&& (lI 3689348814741910323)) + ((((x0 - (((x0.toUInt64 >>> (((iI 1) : Int32).toInt64.toUInt64 &&& Int64.toUInt64 63)).toInt64) &&& (lI 6148914691236517205))).toUInt64 >>> (((iI 2) : Int32).toInt64.toUInt64 &&& Int64.toUInt64 63)).toInt64) &&& (lI 3689348814741910323))) + (((((x0 - (((x0.toUInt64 >>> (((iI 1) : Int32).toInt64.toUInt64 &&& Int64.toUInt64 63)).toInt64) &&& (lI 6148914691236517205))) &&& (lI 3689348814741910323)) + ((((x0 - (((x0.toUInt64 >>> (((iI 1) : Int32).toInt64.toUInt64 &&& Int64.toUInt64 63)).toInt64) &&& (lI 6148914691236517205))).toUInt64 >>> (((iI 2) : Int32).toInt64.toUInt64 &&& Int64.toUInt64 63)).toInt64) &&& (lI 3689348814741910323))).toUInt64 >>> (((iI 4) : Int32).toInt64.toUInt64 &&& Int64.toUInt64 63)).toInt64)) &&& (lI 1085102592571150095)).toUInt64 >>> (((iI 8) : Int32).toInt64.toUInt64 &&& Int64.toUInt64 63)).toInt64)).toUInt64 >>> (((iI 16) : Int32).toInt64.toUInt64 &&& Int64.toUInt64 63)).toInt64)).toUInt64 >>> (((iI 32) : Int32).toInt64.toUInt64 &&& Int64.toUInt64 63)).toInt64)))]) hc d_Long_bitCount_95d88_54 (by decide) rfl ?_
  refine z_lload_n hc d_Long_bitCount_95d88_55 0 rfl ?_
  refine z_l2i hc d_Long_bitCount_95d88_56 ?_
  refine z_bipush (v := (iI 127)) hc d_Long_bitCount_95d88_57 (by decide) ?_
  refine z_iand hc d_Long_bitCount_95d88_59 ?_
  exact z_iret hc d_Long_bitCount_95d88_60 (rI hf hρ)
theorem vl_World_117 : SL R_World 117 y_Long_bitCount_95d88 c_Long_bitCount_95d88 2 (some .int) 1 := ⟨tb2 128 (by decide +kernel) (by decide +kernel), tb2 129 (by decide +kernel) (by decide +kernel), tb1 14 (by decide +kernel) (by decide +kernel), k_Long_bitCount_95d88, by decide, by decide, by decide +kernel, by decide⟩
theorem cz_World_117 {x : Cx} {g : Gv} {cc : ByteArray} {nL d pc : Nat} {ret : Option FieldType} {ρ : Option Value × Sg} {L : List (Nat × Value)} {st : List Value} {σ : Sg} (hc : Zc x g cc R_World nL ret d) (hd : decode cc pc = .ok (.invokestatic 117, 3)) (hdd : 1 ≤ d) {x0 : Int64} {v : Int32} {σ1 : Sg} (hf : f_Long_bitCount_95d88 x0 σ = some (v, σ1)) (hst : (st.map (fun v => v.category)).sum ≤ 8) (k : Z x g nL ρ (pc + 3) L (.int v :: st) σ1) : Z x g nL ρ pc L (.long x0 :: st) σ := z_callS (As := [.long x0]) hc hd vl_World_117 hdd (ok_Long_bitCount_95d88 g x0 σ (v, σ1) hf) rfl rfl hst rfl k
def b_World_yardsWithout_8 (w0 : Nat) (x1 : Int32) (x2 : Int32) (x3 : Int64) (x5 : Int64) (x7 : Int32) (σ : Sg) : Option ((Int64 × Int64 × Int32 × Sg) ⊕ (Int64 × Int64 × Sg)) :=
  (if (σ.1 1 w0 0 3) ≤ x7 then some (.inr (x3, x5, σ)) else Option.bind (rd x7 8) (fun j1 => (if ((x2 >>> ((σ.1 13 w0 0 j1) &&& 31)) &&& (iI 1)) = (iI 0) then Option.bind (rd (σ.1 13 w0 0 j1) 8) (fun j3 => Option.bind (rd (σ.1 13 w0 0 j1) 8) (fun j5 => (if (σ.1 2 w0 j5 1) = x1 then some (.inl (x3 ||| ((σ.2.1 14 w0 0 j3) &&& (x3 ^^^ (lI (-1)))), x5 ||| ((σ.2.1 14 w0 0 j3) &&& (x3 ^^^ (lI (-1)))), x7 + (iI 1), σ)) else some (.inl (x3 ||| ((σ.2.1 14 w0 0 j3) &&& (x3 ^^^ (lI (-1)))), x5, x7 + (iI 1), σ))))) else some (.inl (x3, x5, x7 + (iI 1), σ)))))
theorem sb_World_yardsWithout_8 {x : Cx} {g : Gv} {ρ : Option Value × Sg} (hc : Zc x g c_World_yardsWithout R_World 11 (some .int) 1) (w0 : Nat) (x1 : Int32) (x2 : Int32) (hv0 : w0 < 3) (x3 : Int64) (x5 : Int64) (x7 : Int32) (σ : Sg) (r : (Int64 × Int64 × Int32 × Sg) ⊕ (Int64 × Int64 × Sg)) (hf : b_World_yardsWithout_8 w0 x1 x2 x3 x5 x7 σ = some r) (hi : ∀ a', r = .inl a' → Z x g 11 ρ 8 [(0, .ref (gAd g (1, w0, 0))), (1, .int x1), (2, .int x2), (3, .long a'.1), (5, .long a'.2.1), (7, .int a'.2.2.1)] [] a'.2.2.2) (he0 : ∀ b, r = .inr b → Z x g 11 ρ 82 [(1, .int x1), (3, .long b.1), (5, .long b.2.1)] [] b.2.2) : Z x g 11 ρ 8 [(0, .ref (gAd g (1, w0, 0))), (1, .int x1), (2, .int x2), (3, .long x3), (5, .long x5), (7, .int x7)] [] σ := by
  unfold b_World_yardsWithout_8 at hf
  refine z_iload hc d_World_yardsWithout_8 5 rfl ?_
  refine z_aload_n hc d_World_yardsWithout_10 0 rfl ?_
  refine gf_World_105 hc d_World_yardsWithout_11 hv0 ?_
  refine z_icmp_ge (tgt := 82) hc d_World_yardsWithout_14 (by decide) (fun hq => ?_) (fun hq => ?_)
  · have hf := ifp hq hf
    refine z_sub [1, 3, 4] (L' := [(1, .int x1), (3, .long x3), (5, .long x5)]) rfl ?_
    exact he0 (x3, x5, σ) (Option.some.inj hf).symm
  · have hf := ifn hq hf
    refine z_aload_n hc d_World_yardsWithout_17 0 rfl ?_
    refine gf_World_24 hc d_World_yardsWithout_18 hv0 ?_
    refine z_iload hc d_World_yardsWithout_21 5 rfl ?_
    obtain ⟨j1, hj2, hf⟩ := bd hf
    refine ald_layers hc d_World_yardsWithout_23 hv0 hj2 ?_
    refine z_istore (L' := [(8, .int (σ.1 13 w0 0 j1)), (0, .ref (gAd g (1, w0, 0))), (1, .int x1), (2, .int x2), (3, .long x3), (5, .long x5), (7, .int x7)]) hc d_World_yardsWithout_24 (by decide) rfl ?_
    refine z_iload_n hc d_World_yardsWithout_26 3 rfl ?_
    refine z_iload hc d_World_yardsWithout_27 0 rfl ?_
    refine z_ishr hc d_World_yardsWithout_29 ?_
    refine z_iconst (v := (iI 1)) hc d_World_yardsWithout_30 (by decide) ?_
    refine z_iand hc d_World_yardsWithout_31 ?_
    refine z_if_ne (tgt := 76) hc d_World_yardsWithout_32 (by decide) (fun hq => ?_) (fun hq => ?_)
    · have hf := ifn hq hf
      refine z_iinc (v := x7 + (iI 1)) (L' := [(7, .int (x7 + (iI 1))), (8, .int (σ.1 13 w0 0 j1)), (0, .ref (gAd g (1, w0, 0))), (1, .int x1), (2, .int x2), (3, .long x3), (5, .long x5)]) hc d_World_yardsWithout_76 6 rfl rfl (by decide) rfl ?_
      refine z_goto (tgt := 8) hc d_World_yardsWithout_79 (by decide) ?_
      refine z_sub [2, 3, 4, 5, 6, 0] (L' := [(0, .ref (gAd g (1, w0, 0))), (1, .int x1), (2, .int x2), (3, .long x3), (5, .long x5), (7, .int (x7 + (iI 1)))]) rfl ?_
      exact hi (x3, x5, x7 + (iI 1), σ) (Option.some.inj hf).symm
    · have hf := ifp hq hf
      refine z_aload_n hc d_World_yardsWithout_35 1 rfl ?_
      refine gf_World_27 hc d_World_yardsWithout_36 hv0 ?_
      refine z_iload hc d_World_yardsWithout_39 0 rfl ?_
      obtain ⟨j3, hj4, hf⟩ := bd hf
      refine ald_spans hc d_World_yardsWithout_41 hv0 hj4 ?_
      refine z_lload_n hc d_World_yardsWithout_42 4 rfl ?_
      refine z_ldc2 (v := (lI (-1))) hc cl_World_115 d_World_yardsWithout_43 ?_
      refine z_lxor hc d_World_yardsWithout_46 ?_
      refine z_land hc d_World_yardsWithout_47 ?_
      refine z_lstore (L' := [(9, .long ((σ.2.1 14 w0 0 j3) &&& (x3 ^^^ (lI (-1))))), (8, .int (σ.1 13 w0 0 j1)), (0, .ref (gAd g (1, w0, 0))), (1, .int x1), (2, .int x2), (3, .long x3), (5, .long x5), (7, .int x7)]) hc d_World_yardsWithout_48 (by decide) rfl ?_
      refine z_lload_n hc d_World_yardsWithout_50 5 rfl ?_
      refine z_lload hc d_World_yardsWithout_51 0 rfl ?_
      refine z_lor hc d_World_yardsWithout_53 ?_
      refine z_lstore_n (L' := [(3, .long (x3 ||| ((σ.2.1 14 w0 0 j3) &&& (x3 ^^^ (lI (-1)))))), (9, .long ((σ.2.1 14 w0 0 j3) &&& (x3 ^^^ (lI (-1))))), (8, .int (σ.1 13 w0 0 j1)), (0, .ref (gAd g (1, w0, 0))), (1, .int x1), (2, .int x2), (5, .long x5), (7, .int x7)]) hc d_World_yardsWithout_54 (by decide) rfl ?_
      refine z_aload_n hc d_World_yardsWithout_55 3 rfl ?_
      refine gf_World_11 hc d_World_yardsWithout_56 hv0 ?_
      refine z_iload hc d_World_yardsWithout_59 2 rfl ?_
      obtain ⟨j5, hj6, hf⟩ := bd hf
      refine ald_rugs hc d_World_yardsWithout_61 hv0 hj6 ?_
      refine gf_World_86 hc d_World_yardsWithout_62 (okR_of hv0 (rd_lt hj6)) ?_
      refine z_iload_n hc d_World_yardsWithout_65 4 rfl ?_
      refine z_icmp_ne (tgt := 76) hc d_World_yardsWithout_66 (by decide) (fun hq => ?_) (fun hq => ?_)
      · have hf := ifn hq hf
        refine z_iinc (v := x7 + (iI 1)) (L' := [(7, .int (x7 + (iI 1))), (3, .long (x3 ||| ((σ.2.1 14 w0 0 j3) &&& (x3 ^^^ (lI (-1)))))), (9, .long ((σ.2.1 14 w0 0 j3) &&& (x3 ^^^ (lI (-1))))), (8, .int (σ.1 13 w0 0 j1)), (0, .ref (gAd g (1, w0, 0))), (1, .int x1), (2, .int x2), (5, .long x5)]) hc d_World_yardsWithout_76 7 rfl rfl (by decide) rfl ?_
        refine z_goto (tgt := 8) hc d_World_yardsWithout_79 (by decide) ?_
        refine z_sub [4, 5, 6, 1, 7, 0] (L' := [(0, .ref (gAd g (1, w0, 0))), (1, .int x1), (2, .int x2), (3, .long (x3 ||| ((σ.2.1 14 w0 0 j3) &&& (x3 ^^^ (lI (-1)))))), (5, .long x5), (7, .int (x7 + (iI 1)))]) rfl ?_
        exact hi (x3 ||| ((σ.2.1 14 w0 0 j3) &&& (x3 ^^^ (lI (-1)))), x5, x7 + (iI 1), σ) (Option.some.inj hf).symm
      · have hf := ifp hq hf
        refine z_lload hc d_World_yardsWithout_69 6 rfl ?_
        refine z_lload hc d_World_yardsWithout_71 1 rfl ?_
        refine z_lor hc d_World_yardsWithout_73 ?_
        refine z_lstore (L' := [(5, .long (x5 ||| ((σ.2.1 14 w0 0 j3) &&& (x3 ^^^ (lI (-1)))))), (3, .long (x3 ||| ((σ.2.1 14 w0 0 j3) &&& (x3 ^^^ (lI (-1)))))), (9, .long ((σ.2.1 14 w0 0 j3) &&& (x3 ^^^ (lI (-1))))), (8, .int (σ.1 13 w0 0 j1)), (0, .ref (gAd g (1, w0, 0))), (1, .int x1), (2, .int x2), (7, .int x7)]) hc d_World_yardsWithout_74 (by decide) rfl ?_
        refine z_iinc (v := x7 + (iI 1)) (L' := [(7, .int (x7 + (iI 1))), (5, .long (x5 ||| ((σ.2.1 14 w0 0 j3) &&& (x3 ^^^ (lI (-1)))))), (3, .long (x3 ||| ((σ.2.1 14 w0 0 j3) &&& (x3 ^^^ (lI (-1)))))), (9, .long ((σ.2.1 14 w0 0 j3) &&& (x3 ^^^ (lI (-1))))), (8, .int (σ.1 13 w0 0 j1)), (0, .ref (gAd g (1, w0, 0))), (1, .int x1), (2, .int x2)]) hc d_World_yardsWithout_76 7 rfl rfl (by decide) rfl ?_
        refine z_goto (tgt := 8) hc d_World_yardsWithout_79 (by decide) ?_
        refine z_sub [5, 6, 7, 2, 1, 0] (L' := [(0, .ref (gAd g (1, w0, 0))), (1, .int x1), (2, .int x2), (3, .long (x3 ||| ((σ.2.1 14 w0 0 j3) &&& (x3 ^^^ (lI (-1)))))), (5, .long (x5 ||| ((σ.2.1 14 w0 0 j3) &&& (x3 ^^^ (lI (-1)))))), (7, .int (x7 + (iI 1)))]) rfl ?_
        exact hi (x3 ||| ((σ.2.1 14 w0 0 j3) &&& (x3 ^^^ (lI (-1)))), x5 ||| ((σ.2.1 14 w0 0 j3) &&& (x3 ^^^ (lI (-1)))), x7 + (iI 1), σ) (Option.some.inj hf).symm
def f_World_yardsWithout (w0 : Nat) (x1 : Int32) (x2 : Int32) (σ : Sg) : Option (Int32 × Sg) :=
  Option.bind (lp (fun a => b_World_yardsWithout_8 w0 x1 x2 a.1 a.2.1 a.2.2.1 a.2.2.2) FU ((lI 0), (lI 0), (iI 0), σ)) (fun b17 => (if x1 = (iI (-1)) then b2 (f_Long_bitCount_95d88 b17.1 b17.2.2) (fun v14 σ15 => some ((iI 40) - v14, σ15)) else b2 (f_Long_bitCount_95d88 b17.2.1 b17.2.2) (fun v11 σ12 => some (v11, σ12))))
theorem ok_World_yardsWithout (g : Gv) (w0 : Nat) (x1 : Int32) (x2 : Int32) (hv0 : w0 < 3) (σ : Sg) (r : Int32 × Sg) (hf : f_World_yardsWithout w0 x1 x2 σ = some r) : Ok g y_World_yardsWithout c_World_yardsWithout 11 (some .int) 1 [.ref (gAd g (1, w0, 0)), .int x1, .int x2] σ (some (.int r.1), r.2) := by
  unfold f_World_yardsWithout at hf
  refine Ok.of [(0, .ref (gAd g (1, w0, 0))), (1, .int x1), (2, .int x2)] (by decide) (Nat.le_of_ble_eq_true rfl) rfl ?_
  intro x hc
  have hc : Zc x g c_World_yardsWithout R_World 11 (some .int) 1 := hc
  obtain ⟨ρ, hρ⟩ : ∃ ρ : Option Value × Sg, ρ = (some (.int r.1), r.2) := ⟨_, rfl⟩
  rw [← hρ]
  refine z_lconst (v := (lI 0)) hc d_World_yardsWithout_0 (by decide) ?_
  refine z_lstore_n (L' := [(3, .long (lI 0)), (0, .ref (gAd g (1, w0, 0))), (1, .int x1), (2, .int x2)]) hc d_World_yardsWithout_1 (by decide) rfl ?_
  refine z_lconst (v := (lI 0)) hc d_World_yardsWithout_2 (by decide) ?_
  refine z_lstore (L' := [(5, .long (lI 0)), (3, .long (lI 0)), (0, .ref (gAd g (1, w0, 0))), (1, .int x1), (2, .int x2)]) hc d_World_yardsWithout_3 (by decide) rfl ?_
  refine z_iconst (v := (iI 0)) hc d_World_yardsWithout_5 (by decide) ?_
  refine z_istore (L' := [(7, .int (iI 0)), (5, .long (lI 0)), (3, .long (lI 0)), (0, .ref (gAd g (1, w0, 0))), (1, .int x1), (2, .int x2)]) hc d_World_yardsWithout_6 (by decide) rfl ?_
  refine z_sub [3, 4, 5, 2, 1, 0] (L' := [(0, .ref (gAd g (1, w0, 0))), (1, .int x1), (2, .int x2), (3, .long (lI 0)), (5, .long (lI 0)), (7, .int (iI 0))]) rfl ?_
  obtain ⟨⟨y8, y9, σ10⟩, hl18, hf⟩ := bd hf
  try dsimp only at hf
  refine lp_walk (α := (Int64 × Int64 × Int32 × Sg)) (β := (Int64 × Int64 × Sg)) (body := (fun a : (Int64 × Int64 × Int32 × Sg) => b_World_yardsWithout_8 w0 x1 x2 a.1 a.2.1 a.2.2.1 a.2.2.2)) (In := (fun a : (Int64 × Int64 × Int32 × Sg) => Z x g 11 ρ 8 [(0, .ref (gAd g (1, w0, 0))), (1, .int x1), (2, .int x2), (3, .long a.1), (5, .long a.2.1), (7, .int a.2.2.1)] [] a.2.2.2)) (Out := (fun b => Z x g 11 ρ 82 [(1, .int x1), (3, .long b.1), (5, .long b.2.1)] [] b.2.2)) (fun a r hb hi ho => sb_World_yardsWithout_8 hc w0 x1 x2 hv0 a.1 a.2.1 a.2.2.1 a.2.2.2 r hb hi (fun b e => ho _ e)) FU ((lI 0), (lI 0), (iI 0), σ) _ hl18 ?_
  dsimp only
  refine z_iload_n hc d_World_yardsWithout_82 0 rfl ?_
  refine z_iconst (v := (iI (-1))) hc d_World_yardsWithout_83 (by decide) ?_
  refine z_icmp_ne (tgt := 97) hc d_World_yardsWithout_84 (by decide) (fun hq => ?_) (fun hq => ?_)
  · have hf := ifn hq hf
    refine z_lload hc d_World_yardsWithout_97 2 rfl ?_
    obtain ⟨v11, σ12, h13, hf⟩ := bd2 hf
    refine cz_World_117 hc d_World_yardsWithout_99 (by decide)  h13 (Nat.le_of_ble_eq_true rfl) ?_
    exact z_iret hc d_World_yardsWithout_102 (rI hf hρ)
  · have hf := ifp hq hf
    refine z_bipush (v := (iI 40)) hc d_World_yardsWithout_87 (by decide) ?_
    refine z_lload_n hc d_World_yardsWithout_89 1 rfl ?_
    obtain ⟨v14, σ15, h16, hf⟩ := bd2 hf
    refine cz_World_117 hc d_World_yardsWithout_90 (by decide)  h16 (Nat.le_of_ble_eq_true rfl) ?_
    refine z_isub hc d_World_yardsWithout_93 ?_
    refine z_goto (tgt := 102) hc d_World_yardsWithout_94 (by decide) ?_
    exact z_iret hc d_World_yardsWithout_102 (rI hf hρ)
theorem vl_World_99 : VL R_World 99 y_World_survey c_World_survey 2 none 0 := ⟨tb2 110 (by decide +kernel) (by decide +kernel), tb2 111 (by decide +kernel) (by decide +kernel), tb2 112 (by decide +kernel) (by decide +kernel), tb1 8 (by decide +kernel) (by decide +kernel), k_World_survey, by decide, by decide, by decide +kernel, by decide⟩
theorem cz_World_99 {x : Cx} {g : Gv} {cc : ByteArray} {nL d pc : Nat} {ret : Option FieldType} {ρ : Option Value × Sg} {L : List (Nat × Value)} {st : List Value} {σ : Sg} (hc : Zc x g cc R_World nL ret d) (hd : decode cc pc = .ok (.invokevirtual 99, 3)) (hdd : 5 ≤ d) {w0 : Nat} (hv0 : w0 < 3) {v : Unit} {σ1 : Sg} (hf : f_World_survey w0 σ = some (v, σ1)) (hst : (st.map (fun v => v.category)).sum ≤ 8) (k : Z x g nL ρ (pc + 3) L (st) σ1) : Z x g nL ρ pc L (.ref (gAd g (1, w0, 0)) :: st) σ := z_callV (ci := 9) (As := []) hc hd vl_World_99 hdd (1, w0, 0) (dm_World hv0) rfl rfl (ok_World_survey g w0 hv0 σ (v, σ1) hf) rfl rfl hst rfl k
theorem vl_World_102 : VL R_World 102 y_World_yardsWithout c_World_yardsWithout 11 (some .int) 2 := ⟨tb2 123 (by decide +kernel) (by decide +kernel), tb2 124 (by decide +kernel) (by decide +kernel), tb2 125 (by decide +kernel) (by decide +kernel), tb1 8 (by decide +kernel) (by decide +kernel), k_World_yardsWithout, by decide, by decide, by decide +kernel, by decide⟩
theorem cz_World_102 {x : Cx} {g : Gv} {cc : ByteArray} {nL d pc : Nat} {ret : Option FieldType} {ρ : Option Value × Sg} {L : List (Nat × Value)} {st : List Value} {σ : Sg} (hc : Zc x g cc R_World nL ret d) (hd : decode cc pc = .ok (.invokevirtual 102, 3)) (hdd : 2 ≤ d) {w0 : Nat} {x1 : Int32} {x2 : Int32} (hv0 : w0 < 3) {v : Int32} {σ1 : Sg} (hf : f_World_yardsWithout w0 x1 x2 σ = some (v, σ1)) (hst : (st.map (fun v => v.category)).sum ≤ 8) (k : Z x g nL ρ (pc + 3) L (.int v :: st) σ1) : Z x g nL ρ pc L (.int x2 :: .int x1 :: .ref (gAd g (1, w0, 0)) :: st) σ := z_callV (ci := 9) (As := [.int x1, .int x2]) hc hd vl_World_102 hdd (1, w0, 0) (dm_World hv0) rfl rfl (ok_World_yardsWithout g w0 x1 x2 hv0 σ (v, σ1) hf) rfl rfl hst rfl k
def f_World_yardsOf (w0 : Nat) (x1 : Int32) (σ : Sg) : Option (Int32 × Sg) :=
  b2 (f_World_survey w0 σ) (fun v1 σ2 => b2 (f_World_yardsWithout w0 x1 (iI 0) σ2) (fun v4 σ5 => some (v4, σ5)))
theorem ok_World_yardsOf (g : Gv) (w0 : Nat) (x1 : Int32) (hv0 : w0 < 3) (σ : Sg) (r : Int32 × Sg) (hf : f_World_yardsOf w0 x1 σ = some r) : Ok g y_World_yardsOf c_World_yardsOf 2 (some .int) 5 [.ref (gAd g (1, w0, 0)), .int x1] σ (some (.int r.1), r.2) := by
  unfold f_World_yardsOf at hf
  refine Ok.of [(0, .ref (gAd g (1, w0, 0))), (1, .int x1)] (by decide) (Nat.le_of_ble_eq_true rfl) rfl ?_
  intro x hc
  have hc : Zc x g c_World_yardsOf R_World 2 (some .int) 5 := hc
  obtain ⟨ρ, hρ⟩ : ∃ ρ : Option Value × Sg, ρ = (some (.int r.1), r.2) := ⟨_, rfl⟩
  rw [← hρ]
  refine z_aload_n hc d_World_yardsOf_0 0 rfl ?_
  obtain ⟨v1, σ2, h3, hf⟩ := bd2 hf
  refine cz_World_99 hc d_World_yardsOf_1 (by decide) hv0 h3 (Nat.le_of_ble_eq_true rfl) ?_
  refine z_aload_n hc d_World_yardsOf_4 0 rfl ?_
  refine z_iload_n hc d_World_yardsOf_5 1 rfl ?_
  refine z_iconst (v := (iI 0)) hc d_World_yardsOf_6 (by decide) ?_
  obtain ⟨v4, σ5, h6, hf⟩ := bd2 hf
  refine cz_World_102 hc d_World_yardsOf_7 (by decide) hv0 h6 (Nat.le_of_ble_eq_true rfl) ?_
  exact z_iret hc d_World_yardsOf_10 (rI hf hρ)
def f_Integer_bitCount_0f7a4 (x0 : Int32) (σ : Sg) : Option (Int32 × Sg) :=
  some ((((((((x0 - (((x0.toUInt32 >>> (((iI 1) : Int32).toUInt32 &&& Int32.toUInt32 31)).toInt32) &&& (iI 1431655765))) &&& (iI 858993459)) + ((((x0 - (((x0.toUInt32 >>> (((iI 1) : Int32).toUInt32 &&& Int32.toUInt32 31)).toInt32) &&& (iI 1431655765))).toUInt32 >>> (((iI 2) : Int32).toUInt32 &&& Int32.toUInt32 31)).toInt32) &&& (iI 858993459))) + (((((x0 - (((x0.toUInt32 >>> (((iI 1) : Int32).toUInt32 &&& Int32.toUInt32 31)).toInt32) &&& (iI 1431655765))) &&& (iI 858993459)) + ((((x0 - (((x0.toUInt32 >>> (((iI 1) : Int32).toUInt32 &&& Int32.toUInt32 31)).toInt32) &&& (iI 1431655765))).toUInt32 >>> (((iI 2) : Int32).toUInt32 &&& Int32.toUInt32 31)).toInt32) &&& (iI 858993459))).toUInt32 >>> (((iI 4) : Int32).toUInt32 &&& Int32.toUInt32 31)).toInt32)) &&& (iI 252645135)) + (((((((x0 - (((x0.toUInt32 >>> (((iI 1) : Int32).toUInt32 &&& Int32.toUInt32 31)).toInt32) &&& (iI 1431655765))) &&& (iI 858993459)) + ((((x0 - (((x0.toUInt32 >>> (((iI 1) : Int32).toUInt32 &&& Int32.toUInt32 31)).toInt32) &&& (iI 1431655765))).toUInt32 >>> (((iI 2) : Int32).toUInt32 &&& Int32.toUInt32 31)).toInt32) &&& (iI 858993459))) + (((((x0 - (((x0.toUInt32 >>> (((iI 1) : Int32).toUInt32 &&& Int32.toUInt32 31)).toInt32) &&& (iI 1431655765))) &&& (iI 858993459)) + ((((x0 - (((x0.toUInt32 >>> (((iI 1) : Int32).toUInt32 &&& Int32.toUInt32 31)).toInt32) &&& (iI 1431655765))).toUInt32 >>> (((iI 2) : Int32).toUInt32 &&& Int32.toUInt32 31)).toInt32) &&& (iI 858993459))).toUInt32 >>> (((iI 4) : Int32).toUInt32 &&& Int32.toUInt32 31)).toInt32)) &&& (iI 252645135)).toUInt32 >>> (((iI 8) : Int32).toUInt32 &&& Int32.toUInt32 31)).toInt32)) + ((((((((x0 - (((x0.toUInt32 >>> (((iI 1) : Int32).toUInt32 &&& Int32.toUInt32 31)).toInt32) &&& (iI 1431655765))) &&& (iI 858993459)) + ((((x0 - (((x0.toUInt32 >>> (((iI 1) : Int32).toUInt32 &&& Int32.toUInt32 31)).toInt32) &&& (iI 1431655765))).toUInt32 >>> (((iI 2) : Int32).toUInt32 &&& Int32.toUInt32 31)).toInt32) &&& (iI 858993459))) + (((((x0 - (((x0.toUInt32 >>> (((iI 1) : Int32).toUInt32 &&& Int32.toUInt32 31)).toInt32) &&& (iI 1431655765))) &&& (iI 858993459)) + ((((x0 - (((x0.toUInt32 >>> (((iI 1) : Int32).toUInt32 &&& Int32.toUInt32 31)).toInt32) &&& (iI 1431655765))).toUInt32 >>> (((iI 2) : Int32).toUInt32 &&& Int32.toUInt32 31)).toInt32) &&& (iI 858993459))).toUInt32 >>> (((iI 4) : Int32).toUInt32 &&& Int32.toUInt32 31)).toInt32)) &&& (iI 252645135)) + (((((((x0 - (((x0.toUInt32 >>> (((iI 1) : Int32).toUInt32 &&& Int32.toUInt32 31)).toInt32) &&& (iI 1431655765))) &&& (iI 858993459)) + ((((x0 - (((x0.toUInt32 >>> (((iI 1) : Int32).toUInt32 &&& Int32.toUInt32 31)).toInt32) &&& (iI 1431655765))).toUInt32 >>> (((iI 2) : Int32).toUInt32 &&& Int32.toUInt32 31)).toInt32) &&& (iI 858993459))) + (((((x0 - (((x0.toUInt32 >>> (((iI 1) : Int32).toUInt32 &&& Int32.toUInt32 31)).toInt32) &&& (iI 1431655765))) &&& (iI 858993459)) + ((((x0 - (((x0.toUInt32 >>> (((iI 1) : Int32).toUInt32 &&& Int32.toUInt32 31)).toInt32) &&& (iI 1431655765))).toUInt32 >>> (((iI 2) : Int32).toUInt32 &&& Int32.toUInt32 31)).toInt32) &&& (iI 858993459))).toUInt32 >>> (((iI 4) : Int32).toUInt32 &&& Int32.toUInt32 31)).toInt32)) &&& (iI 252645135)).toUInt32 >>> (((iI 8) : Int32).toUInt32 &&& Int32.toUInt32 31)).toInt32)).toUInt32 >>> (((iI 16) : Int32).toUInt32 &&& Int32.toUInt32 31)).toInt32)) &&& (iI 63), σ)
theorem ok_Integer_bitCount_0f7a4 (g : Gv) (x0 : Int32) (σ : Sg) (r : Int32 × Sg) (hf : f_Integer_bitCount_0f7a4 x0 σ = some r) : Ok g y_Integer_bitCount_0f7a4 c_Integer_bitCount_0f7a4 1 (some .int) 0 [.int x0] σ (some (.int r.1), r.2) := by
  unfold f_Integer_bitCount_0f7a4 at hf
  refine Ok.of [(0, .int x0)] (by decide) (Nat.le_of_ble_eq_true rfl) rfl ?_
  intro x hc
  have hc : Zc x g c_Integer_bitCount_0f7a4 R_Integer 1 (some .int) 0 := hc
  obtain ⟨ρ, hρ⟩ : ∃ ρ : Option Value × Sg, ρ = (some (.int r.1), r.2) := ⟨_, rfl⟩
  rw [← hρ]
  refine z_iload_n hc d_Integer_bitCount_0f7a4_0 0 rfl ?_
  refine z_iload_n hc d_Integer_bitCount_0f7a4_1 0 rfl ?_
  refine z_iconst (v := (iI 1)) hc d_Integer_bitCount_0f7a4_2 (by decide) ?_
  refine z_iushr hc d_Integer_bitCount_0f7a4_3 ?_
  refine z_ldcw (v := (iI 1431655765)) hc co_Integer_265 d_Integer_bitCount_0f7a4_4 ?_
  refine z_iand hc d_Integer_bitCount_0f7a4_7 ?_
  refine z_isub hc d_Integer_bitCount_0f7a4_8 ?_
  refine z_istore_n (L' := [(0, .int (x0 - (((x0.toUInt32 >>> (((iI 1) : Int32).toUInt32 &&& Int32.toUInt32 31)).toInt32) &&& (iI 1431655765))))]) hc d_Integer_bitCount_0f7a4_9 (by decide) rfl ?_
  refine z_iload_n hc d_Integer_bitCount_0f7a4_10 0 rfl ?_
  refine z_ldcw (v := (iI 858993459)) hc co_Integer_266 d_Integer_bitCount_0f7a4_11 ?_
  refine z_iand hc d_Integer_bitCount_0f7a4_14 ?_
  refine z_iload_n hc d_Integer_bitCount_0f7a4_15 0 rfl ?_
  refine z_iconst (v := (iI 2)) hc d_Integer_bitCount_0f7a4_16 (by decide) ?_
  refine z_iushr hc d_Integer_bitCount_0f7a4_17 ?_
  refine z_ldcw (v := (iI 858993459)) hc co_Integer_266 d_Integer_bitCount_0f7a4_18 ?_
  refine z_iand hc d_Integer_bitCount_0f7a4_21 ?_
  refine z_iadd hc d_Integer_bitCount_0f7a4_22 ?_
  refine z_istore_n (L' := [(0, .int (((x0 - (((x0.toUInt32 >>> (((iI 1) : Int32).toUInt32 &&& Int32.toUInt32 31)).toInt32) &&& (iI 1431655765))) &&& (iI 858993459)) + ((((x0 - (((x0.toUInt32 >>> (((iI 1) : Int32).toUInt32 &&& Int32.toUInt32 31)).toInt32) &&& (iI 1431655765))).toUInt32 >>> (((iI 2) : Int32).toUInt32 &&& Int32.toUInt32 31)).toInt32) &&& (iI 858993459))))]) hc d_Integer_bitCount_0f7a4_23 (by decide) rfl ?_
  refine z_iload_n hc d_Integer_bitCount_0f7a4_24 0 rfl ?_
  refine z_iload_n hc d_Integer_bitCount_0f7a4_25 0 rfl ?_
  refine z_iconst (v := (iI 4)) hc d_Integer_bitCount_0f7a4_26 (by decide) ?_
  refine z_iushr hc d_Integer_bitCount_0f7a4_27 ?_
  refine z_iadd hc d_Integer_bitCount_0f7a4_28 ?_
  refine z_ldcw (v := (iI 252645135)) hc co_Integer_267 d_Integer_bitCount_0f7a4_29 ?_
  refine z_iand hc d_Integer_bitCount_0f7a4_32 ?_
  refine z_istore_n (L' := [(0, .int (((((x0 - (((x0.toUInt32 >>> (((iI 1) : Int32).toUInt32 &&& Int32.toUInt32 31)).toInt32) &&& (iI 1431655765))) &&& (iI 858993459)) + ((((x0 - (((x0.toUInt32 >>> (((iI 1) : Int32).toUInt32 &&& Int32.toUInt32 31)).toInt32) &&& (iI 1431655765))).toUInt32 >>> (((iI 2) : Int32).toUInt32 &&& Int32.toUInt32 31)).toInt32) &&& (iI 858993459))) + (((((x0 - (((x0.toUInt32 >>> (((iI 1) : Int32).toUInt32 &&& Int32.toUInt32 31)).toInt32) &&& (iI 1431655765))) &&& (iI 858993459)) + ((((x0 - (((x0.toUInt32 >>> (((iI 1) : Int32).toUInt32 &&& Int32.toUInt32 31)).toInt32) &&& (iI 1431655765))).toUInt32 >>> (((iI 2) : Int32).toUInt32 &&& Int32.toUInt32 31)).toInt32) &&& (iI 858993459))).toUInt32 >>> (((iI 4) : Int32).toUInt32 &&& Int32.toUInt32 31)).toInt32)) &&& (iI 252645135)))]) hc d_Integer_bitCount_0f7a4_33 (by decide) rfl ?_
  refine z_iload_n hc d_Integer_bitCount_0f7a4_34 0 rfl ?_
  refine z_iload_n hc d_Integer_bitCount_0f7a4_35 0 rfl ?_
  refine z_bipush (v := (iI 8)) hc d_Integer_bitCount_0f7a4_36 (by decide) ?_
  refine z_iushr hc d_Integer_bitCount_0f7a4_38 ?_
  refine z_iadd hc d_Integer_bitCount_0f7a4_39 ?_
  refine z_istore_n (L' := [(0, .int ((((((x0 - (((x0.toUInt32 >>> (((iI 1) : Int32).toUInt32 &&& Int32.toUInt32 31)).toInt32) &&& (iI 1431655765))) &&& (iI 858993459)) + ((((x0 - (((x0.toUInt32 >>> (((iI 1) : Int32).toUInt32 &&& Int32.toUInt32 31)).toInt32) &&& (iI 1431655765))).toUInt32 >>> (((iI 2) : Int32).toUInt32 &&& Int32.toUInt32 31)).toInt32) &&& (iI 858993459))) + (((((x0 - (((x0.toUInt32 >>> (((iI 1) : Int32).toUInt32 &&& Int32.toUInt32 31)).toInt32) &&& (iI 1431655765))) &&& (iI 858993459)) + ((((x0 - (((x0.toUInt32 >>> (((iI 1) : Int32).toUInt32 &&& Int32.toUInt32 31)).toInt32) &&& (iI 1431655765))).toUInt32 >>> (((iI 2) : Int32).toUInt32 &&& Int32.toUInt32 31)).toInt32) &&& (iI 858993459))).toUInt32 >>> (((iI 4) : Int32).toUInt32 &&& Int32.toUInt32 31)).toInt32)) &&& (iI 252645135)) + (((((((x0 - (((x0.toUInt32 >>> (((iI 1) : Int32).toUInt32 &&& Int32.toUInt32 31)).toInt32) &&& (iI 1431655765))) &&& (iI 858993459)) + ((((x0 - (((x0.toUInt32 >>> (((iI 1) : Int32).toUInt32 &&& Int32.toUInt32 31)).toInt32) &&& (iI 1431655765))).toUInt32 >>> (((iI 2) : Int32).toUInt32 &&& Int32.toUInt32 31)).toInt32) &&& (iI 858993459))) + (((((x0 - (((x0.toUInt32 >>> (((iI 1) : Int32).toUInt32 &&& Int32.toUInt32 31)).toInt32) &&& (iI 1431655765))) &&& (iI 858993459)) + ((((x0 - (((x0.toUInt32 >>> (((iI 1) : Int32).toUInt32 &&& Int32.toUInt32 31)).toInt32) &&& (iI 1431655765))).toUInt32 >>> (((iI 2) : Int32).toUInt32 &&& Int32.toUInt32 31)).toInt32) &&& (iI 858993459))).toUInt32 >>> (((iI 4) : Int32).toUInt32 &&& Int32.toUInt32 31)).toInt32)) &&& (iI 252645135)).toUInt32 >>> (((iI 8) : Int32).toUInt32 &&& Int32.toUInt32 31)).toInt32)))]) hc d_Integer_bitCount_0f7a4_40 (by decide) rfl ?_
  refine z_iload_n hc d_Integer_bitCount_0f7a4_41 0 rfl ?_
  refine z_iload_n hc d_Integer_bitCount_0f7a4_42 0 rfl ?_
  refine z_bipush (v := (iI 16)) hc d_Integer_bitCount_0f7a4_43 (by decide) ?_
  refine z_iushr hc d_Integer_bitCount_0f7a4_45 ?_
  refine z_iadd hc d_Integer_bitCount_0f7a4_46 ?_
  refine z_istore_n (L' := [(0, .int (((((((x0 - (((x0.toUInt32 >>> (((iI 1) : Int32).toUInt32 &&& Int32.toUInt32 31)).toInt32) &&& (iI 1431655765))) &&& (iI 858993459)) + ((((x0 - (((x0.toUInt32 >>> (((iI 1) : Int32).toUInt32 &&& Int32.toUInt32 31)).toInt32) &&& (iI 1431655765))).toUInt32 >>> (((iI 2) : Int32).toUInt32 &&& Int32.toUInt32 31)).toInt32) &&& (iI 858993459))) + (((((x0 - (((x0.toUInt32 >>> (((iI 1) : Int32).toUInt32 &&& Int32.toUInt32 31)).toInt32) &&& (iI 1431655765))) &&& (iI 858993459)) + ((((x0 - (((x0.toUInt32 >>> (((iI 1) : Int32).toUInt32 &&& Int32.toUInt32 31)).toInt32) &&& (iI 1431655765))).toUInt32 >>> (((iI 2) : Int32).toUInt32 &&& Int32.toUInt32 31)).toInt32) &&& (iI 858993459))).toUInt32 >>> (((iI 4) : Int32).toUInt32 &&& Int32.toUInt32 31)).toInt32)) &&& (iI 252645135)) + (((((((x0 - (((x0.toUInt32 >>> (((iI 1) : Int32).toUInt32 &&& Int32.toUInt32 31)).toInt32) &&& (iI 1431655765))) &&& (iI 858993459)) + ((((x0 - (((x0.toUInt32 >>> (((iI 1) : Int32).toUInt32 &&& Int32.toUInt32 31)).toInt32) &&& (iI 1431655765))).toUInt32 >>> (((iI 2) : Int32).toUInt32 &&& Int32.toUInt32 31)).toInt32) &&& (iI 858993459))) + (((((x0 - (((x0.toUInt32 >>> (((iI 1) : Int32).toUInt32 &&& Int32.toUInt32 31)).toInt32) &&& (iI 1431655765))) &&& (iI 858993459)) + ((((x0 - (((x0.toUInt32 >>> (((iI 1) : Int32).toUInt32 &&& Int32.toUInt32 31)).toInt32) &&& (iI 1431655765))).toUInt32 >>> (((iI 2) : Int32).toUInt32 &&& Int32.toUInt32 31)).toInt32) &&& (iI 858993459))).toUInt32 >>> (((iI 4) : Int32).toUInt32 &&& Int32.toUInt32 31)).toInt32)) &&& (iI 252645135)).toUInt32 >>> (((iI 8) : Int32).toUInt32 &&& Int32.toUInt32 31)).toInt32)) + ((((((((x0 - (((x0.toUInt32 >>> (((iI 1) : Int32).toUInt32 &&& Int32.toUInt32 31)).toInt32) &&& (iI 1431655765))) &&& (iI 858993459)) + ((((x0 - (((x0.toUInt32 >>> (((iI 1) : Int32).toUInt32 &&& Int32.toUInt32 31)).toInt32) &&& (iI 1431655765))).toUInt32 >>> (((iI 2) : Int32).toUInt32 &&& Int32.toUInt32 31)).toInt32) &&& (iI 858993459))) + (((((x0 - (((x0.toUInt32 >>> (((iI 1) : Int32).toUInt32 &&& Int32.toUInt32 31)).toInt32) &&& (iI 1431655765))) &&& (iI 858993459)) + ((((x0 - (((x0.toUInt32 >>> (((iI 1) : Int32).toUInt32 &&& Int32.toUInt32 31)).toInt32) &&& (iI 1431655765))).toUInt32 >>> (((iI 2) : Int32).toUInt32 &&& Int32.toUInt32 31)).toInt32) &&& (iI 858993459))).toUInt32 >>> (((iI 4) : Int32).toUInt32 &&& Int32.toUInt32 31)).toInt32)) &&& (iI 252645135)) + (((((((x0 - (((x0.toUInt32 >>> (((iI 1) : Int32).toUInt32 &&& Int32.toUInt32 31)).toInt32) &&& (iI 1431655765))) &&& (iI 858993459)) + ((((x0 - (((x0.toUInt32 >>> (((iI 1) : Int32).toUInt32 &&& Int32.toUInt32 31)).toInt32) &&& (iI 1431655765))).toUInt32 >>> (((iI 2) : Int32).toUInt32 &&& Int32.toUInt32 31)).toInt32) &&& (iI 858993459))) + (((((x0 - (((x0.toUInt32 >>> (((iI 1) : Int32).toUInt32 &&& Int32.toUInt32 31)).toInt32) &&& (iI 1431655765))) &&& (iI 858993459)) + ((((x0 - (((x0.toUInt32 >>> (((iI 1) : Int32).toUInt32 &&& Int32.toUInt32 31)).toInt32) &&& (iI 1431655765))).toUInt32 >>> (((iI 2) : Int32).toUInt32 &&& Int32.toUInt32 31)).toInt32) &&& (iI 858993459))).toUInt32 >>> (((iI 4) : Int32).toUInt32 &&& Int32.toUInt32 31)).toInt32)) &&& (iI 252645135)).toUInt32 >>> (((iI 8) : Int32).toUInt32 &&& Int32.toUInt32 31)).toInt32)).toUInt32 >>> (((iI 16) : Int32).toUInt32 &&& Int32.toUInt32 31)).toInt32)))]) hc d_Integer_bitCount_0f7a4_47 (by decide) rfl ?_
  refine z_iload_n hc d_Integer_bitCount_0f7a4_48 0 rfl ?_
  refine z_bipush (v := (iI 63)) hc d_Integer_bitCount_0f7a4_49 (by decide) ?_
  refine z_iand hc d_Integer_bitCount_0f7a4_51 ?_
  exact z_iret hc d_Integer_bitCount_0f7a4_52 (rI hf hρ)
