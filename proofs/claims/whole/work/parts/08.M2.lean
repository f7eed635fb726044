theorem vl_M_132 : VL R_M 132 y_M_hasThen c_M_hasThen 4 (some .int) 2 := ⟨tb5 111 (by decide +kernel) (by decide +kernel), tb5 113 (by decide +kernel) (by decide +kernel), tbp 31 (by decide +kernel), tb1 12 (by decide +kernel) (by decide +kernel), k_M_hasThen, by decide, by decide, by decide +kernel, by decide⟩
theorem cz_M_132 {x : Cx} {g : Gv} {cc : ByteArray} {nL d pc : Nat} {ret : Option FieldType} {ρ : Option Value × Sg} {L : List (Nat × Value)} {st : List Value} {σ : Sg} (hc : Zc x g cc R_M nL ret d) (hd : decode cc pc = .ok (.invokevirtual 132, 3)) (hdd : 7 ≤ d) {x1 : Int32} {x2 : Int32} {v : Int32} {σ1 : Sg} (hf : f_M_hasThen x1 x2 σ = some (v, σ1)) (hst : (st.map (fun v => v.category)).sum ≤ 8) (k : Z x g nL ρ (pc + 3) L (.int v :: st) σ1) : Z x g nL ρ pc L (.int x2 :: .int x1 :: .ref (gAd g (6, 0, 0)) :: st) σ := z_callV (ci := 11) (As := [.int x1, .int x2]) hc hd vl_M_132 hdd (6, 0, 0) (dm_M) rfl rfl (ok_M_hasThen g x1 x2 σ (v, σ1) hf) rfl rfl hst rfl k
def j_M_ownsOn_20 (σ : Sg) : Option (Int32 × Sg) :=
  b2 (f_M_no (iI 0) σ) (fun v4 σ5 => some (v4, σ5))
theorem sj_M_ownsOn_20 {x : Cx} {g : Gv} {ρ : Option Value × Sg} (hc : Zc x g c_M_ownsOn R_M 3 (some .int) 7) (σ : Sg) (r : Int32 × Sg) (hf : j_M_ownsOn_20 σ = some r) (hρ : ρ = (some (.int r.1), r.2)) : Z x g 3 ρ 20 [(0, .ref (gAd g (6, 0, 0)))] [] σ := by
  unfold j_M_ownsOn_20 at hf
  refine z_aload_n hc d_M_ownsOn_20 0 rfl ?_
  refine z_iconst (v := (iI 0)) hc d_M_ownsOn_21 (by decide) ?_
  obtain ⟨v4, σ5, h6, hf⟩ := bd2 hf
  refine cz_M_92 hc d_M_ownsOn_22 (by decide)  h6 (Nat.le_of_ble_eq_true rfl) ?_
  exact z_iret hc d_M_ownsOn_25 (rI hf hρ)
def f_M_ownsOn (x1 : Int32) (x2 : Int32) (σ : Sg) : Option (Int32 × Sg) :=
  b2 (f_M_in1 x1 (iI (-1)) (iI 3) σ) (fun v1 σ2 => (if v1 = (iI 0) then j_M_ownsOn_20   σ2 else b2 (f_M_in1 x2 (iI 0) (iI 200) σ2) (fun v7 σ8 => (if v7 = (iI 0) then j_M_ownsOn_20   σ8 else b2 (f_M_setsAside  σ8) (fun v10 σ11 => b2 (f_M_hasThen x1 x2 σ11) (fun v13 σ14 => some (v13, σ14)))))))
theorem ok_M_ownsOn (g : Gv) (x1 : Int32) (x2 : Int32) (σ : Sg) (r : Int32 × Sg) (hf : f_M_ownsOn x1 x2 σ = some r) : Ok g y_M_ownsOn c_M_ownsOn 3 (some .int) 7 [.ref (gAd g (6, 0, 0)), .int x1, .int x2] σ (some (.int r.1), r.2) := by
  unfold f_M_ownsOn at hf
  refine Ok.of [(0, .ref (gAd g (6, 0, 0))), (1, .int x1), (2, .int x2)] (by decide) (Nat.le_of_ble_eq_true rfl) rfl ?_
  intro x hc
  have hc : Zc x g c_M_ownsOn R_M 3 (some .int) 7 := hc
  obtain ⟨ρ, hρ⟩ : ∃ ρ : Option Value × Sg, ρ = (some (.int r.1), r.2) := ⟨_, rfl⟩
  rw [← hρ]
  refine z_iload_n hc d_M_ownsOn_0 1 rfl ?_
  refine z_iconst (v := (iI (-1))) hc d_M_ownsOn_1 (by decide) ?_
  refine z_iconst (v := (iI 3)) hc d_M_ownsOn_2 (by decide) ?_
  obtain ⟨v1, σ2, h3, hf⟩ := bd2 hf
  refine cz_M_49 hc d_M_ownsOn_3 (by decide)  h3 (Nat.le_of_ble_eq_true rfl) ?_
  refine z_if_eq (tgt := 20) hc d_M_ownsOn_6 (by decide) (fun hq => ?_) (fun hq => ?_)
  · have hf := ifp hq hf
    refine z_sub [0] (L' := [(0, .ref (gAd g (6, 0, 0)))]) rfl ?_
    exact sj_M_ownsOn_20 hc     σ2 _ hf hρ
  · have hf := ifn hq hf
    refine z_iload_n hc d_M_ownsOn_9 2 rfl ?_
    refine z_iconst (v := (iI 0)) hc d_M_ownsOn_10 (by decide) ?_
    refine z_sipush (v := (iI 200)) hc d_M_ownsOn_11 (by decide) ?_
    obtain ⟨v7, σ8, h9, hf⟩ := bd2 hf
    refine cz_M_49 hc d_M_ownsOn_14 (by decide)  h9 (Nat.le_of_ble_eq_true rfl) ?_
    refine z_if_ne (tgt := 26) hc d_M_ownsOn_17 (by decide) (fun hq => ?_) (fun hq => ?_)
    · have hf := ifn hq hf
      refine z_aload_n hc d_M_ownsOn_26 0 rfl ?_
      obtain ⟨v10, σ11, h12, hf⟩ := bd2 hf
      refine cz_M_126 hc d_M_ownsOn_27 (by decide)  h12 (Nat.le_of_ble_eq_true rfl) ?_
      refine z_aload_n hc d_M_ownsOn_30 0 rfl ?_
      refine z_iload_n hc d_M_ownsOn_31 1 rfl ?_
      refine z_iload_n hc d_M_ownsOn_32 2 rfl ?_
      obtain ⟨v13, σ14, h15, hf⟩ := bd2 hf
      refine cz_M_132 hc d_M_ownsOn_33 (by decide)  h15 (Nat.le_of_ble_eq_true rfl) ?_
      exact z_iret hc d_M_ownsOn_36 (rI hf hρ)
    · have hf := ifp hq hf
      refine z_sub [0] (L' := [(0, .ref (gAd g (6, 0, 0)))]) rfl ?_
      exact sj_M_ownsOn_20 hc     σ8 _ hf hρ
def j_M_firstBy_89 (x1 : Int32) (x2 : Int32) (x3 : Int32) (x4 : Int32) (x5 : Int32) (xs0 : Int32) (σ : Sg) : Option ((Int32 × Int32 × Sg) ⊕ (Int32 × Sg)) :=
  b2 (f_M_goes xs0 σ) (fun v4 σ5 => (if x5 = (iI 0) then some (.inl (x4 + (iI 1), x5, σ5)) else some (.inl (x4 + (iI 0), x5, σ5))))
theorem sj_M_firstBy_89 {x : Cx} {g : Gv} {ρ : Option Value × Sg} (hc : Zc x g c_M_firstBy R_M 6 (some .int) 5) (x1 : Int32) (x2 : Int32) (x3 : Int32) (x4 : Int32) (x5 : Int32) (xs0 : Int32) (σ : Sg) (r : (Int32 × Int32 × Sg) ⊕ (Int32 × Sg)) (hf : j_M_firstBy_89 x1 x2 x3 x4 x5 xs0 σ = some r) (hi : ∀ a', r = .inl a' → Z x g 6 ρ 6 [(0, .ref (gAd g (6, 0, 0))), (1, .int x1), (2, .int x2), (3, .int x3), (4, .int a'.1), (5, .int a'.2.1)] [] a'.2.2) (he0 : ∀ b, r = .inr b → Z x g 6 ρ 110 [(0, .ref (gAd g (6, 0, 0))), (4, .int b.1)] [] b.2) : Z x g 6 ρ 89 [(0, .ref (gAd g (6, 0, 0))), (1, .int x1), (2, .int x2), (3, .int x3), (4, .int x4), (5, .int x5)] [.int xs0, .ref (gAd g (6, 0, 0))] σ := by
  unfold j_M_firstBy_89 at hf
  obtain ⟨v4, σ5, h6, hf⟩ := bd2 hf
  refine cz_M_123 hc d_M_firstBy_89 (by decide)  h6 (Nat.le_of_ble_eq_true rfl) ?_
  refine z_iload hc d_M_firstBy_92 4 rfl ?_
  refine z_iload hc d_M_firstBy_94 5 rfl ?_
  refine z_if_eq (tgt := 103) hc d_M_firstBy_96 (by decide) (fun hq => ?_) (fun hq => ?_)
  · have hf := ifp hq hf
    refine z_iconst (v := (iI 1)) hc d_M_firstBy_103 (by decide) ?_
    refine z_iadd hc d_M_firstBy_104 ?_
    refine z_istore (L' := [(4, .int (x4 + (iI 1))), (0, .ref (gAd g (6, 0, 0))), (1, .int x1), (2, .int x2), (3, .int x3), (5, .int x5)]) hc d_M_firstBy_105 (by decide) rfl ?_
    refine z_goto (tgt := 6) hc d_M_firstBy_107 (by decide) ?_
    refine z_sub [1, 2, 3, 4, 0, 5] (L' := [(0, .ref (gAd g (6, 0, 0))), (1, .int x1), (2, .int x2), (3, .int x3), (4, .int (x4 + (iI 1))), (5, .int x5)]) rfl ?_
    exact hi (x4 + (iI 1), x5, σ5) (Option.some.inj hf).symm
  · have hf := ifn hq hf
    refine z_iconst (v := (iI 0)) hc d_M_firstBy_99 (by decide) ?_
    refine z_goto (tgt := 104) hc d_M_firstBy_100 (by decide) ?_
    refine z_iadd hc d_M_firstBy_104 ?_
    refine z_istore (L' := [(4, .int (x4 + (iI 0))), (0, .ref (gAd g (6, 0, 0))), (1, .int x1), (2, .int x2), (3, .int x3), (5, .int x5)]) hc d_M_firstBy_105 (by decide) rfl ?_
    refine z_goto (tgt := 6) hc d_M_firstBy_107 (by decide) ?_
    refine z_sub [1, 2, 3, 4, 0, 5] (L' := [(0, .ref (gAd g (6, 0, 0))), (1, .int x1), (2, .int x2), (3, .int x3), (4, .int (x4 + (iI 0))), (5, .int x5)]) rfl ?_
    exact hi (x4 + (iI 0), x5, σ5) (Option.some.inj hf).symm
def j_M_firstBy_76 (x1 : Int32) (x2 : Int32) (x3 : Int32) (x4 : Int32) (xs0 : Int32) (σ : Sg) : Option ((Int32 × Int32 × Sg) ⊕ (Int32 × Sg)) :=
  (if xs0 = (iI 0) then j_M_firstBy_89 x1 x2 x3 x4 xs0 (iI 1) σ else j_M_firstBy_89 x1 x2 x3 x4 xs0 (iI 0) σ)
theorem sj_M_firstBy_76 {x : Cx} {g : Gv} {ρ : Option Value × Sg} (hc : Zc x g c_M_firstBy R_M 6 (some .int) 5) (x1 : Int32) (x2 : Int32) (x3 : Int32) (x4 : Int32) (xs0 : Int32) (σ : Sg) (r : (Int32 × Int32 × Sg) ⊕ (Int32 × Sg)) (hf : j_M_firstBy_76 x1 x2 x3 x4 xs0 σ = some r) (hi : ∀ a', r = .inl a' → Z x g 6 ρ 6 [(0, .ref (gAd g (6, 0, 0))), (1, .int x1), (2, .int x2), (3, .int x3), (4, .int a'.1), (5, .int a'.2.1)] [] a'.2.2) (he0 : ∀ b, r = .inr b → Z x g 6 ρ 110 [(0, .ref (gAd g (6, 0, 0))), (4, .int b.1)] [] b.2) : Z x g 6 ρ 76 [(0, .ref (gAd g (6, 0, 0))), (1, .int x1), (2, .int x2), (3, .int x3), (4, .int x4)] [.int xs0] σ := by
  unfold j_M_firstBy_76 at hf
  refine z_istore (L' := [(5, .int xs0), (0, .ref (gAd g (6, 0, 0))), (1, .int x1), (2, .int x2), (3, .int x3), (4, .int x4)]) hc d_M_firstBy_76 (by decide) rfl ?_
  refine z_aload_n hc d_M_firstBy_78 1 rfl ?_
  refine z_iload hc d_M_firstBy_79 0 rfl ?_
  refine z_if_eq (tgt := 88) hc d_M_firstBy_81 (by decide) (fun hq => ?_) (fun hq => ?_)
  · have hf := ifp hq hf
    refine z_iconst (v := (iI 1)) hc d_M_firstBy_88 (by decide) ?_
    refine z_sub [1, 2, 3, 4, 5, 0] (L' := [(0, .ref (gAd g (6, 0, 0))), (1, .int x1), (2, .int x2), (3, .int x3), (4, .int x4), (5, .int xs0)]) rfl ?_
    exact sj_M_firstBy_89 hc x1 x2 x3 x4 xs0 (iI 1)   σ _ hf hi he0
  · have hf := ifn hq hf
    refine z_iconst (v := (iI 0)) hc d_M_firstBy_84 (by decide) ?_
    refine z_goto (tgt := 89) hc d_M_firstBy_85 (by decide) ?_
    refine z_sub [1, 2, 3, 4, 5, 0] (L' := [(0, .ref (gAd g (6, 0, 0))), (1, .int x1), (2, .int x2), (3, .int x3), (4, .int x4), (5, .int xs0)]) rfl ?_
    exact sj_M_firstBy_89 hc x1 x2 x3 x4 xs0 (iI 0)   σ _ hf hi he0
def b_M_firstBy_6 (x1 : Int32) (x2 : Int32) (x3 : Int32) (x4 : Int32) (x5 : Int32) (σ : Sg) : Option ((Int32 × Int32 × Sg) ⊕ (Int32 × Sg)) :=
  (if (iI 400) < x4 then some (.inr (x4, σ)) else (if x5 = (iI 0) then (if x1 = (iI 0) then b2 (f_M_get x2 (iI 5) σ) (fun v10 σ11 => (if (iI 0) ≤ v10 then j_M_firstBy_76 x1 x2 x3 x4 (iI 0) σ11 else j_M_firstBy_76 x1 x2 x3 x4 (iI 1) σ11)) else (if x1 = (iI 1) then b2 (f_M_get x2 (iI 3) σ) (fun v7 σ8 => (if v7 = (iI 0) then j_M_firstBy_76 x1 x2 x3 x4 (iI 1) σ8 else j_M_firstBy_76 x1 x2 x3 x4 (iI 0) σ8)) else b2 (f_M_whoseIs x2 σ) (fun v1 σ2 => (if v1 = x3 then j_M_firstBy_76 x1 x2 x3 x4 (iI 0) σ2 else j_M_firstBy_76 x1 x2 x3 x4 (iI 1) σ2)))) else some (.inr (x4, σ))))
theorem sb_M_firstBy_6 {x : Cx} {g : Gv} {ρ : Option Value × Sg} (hc : Zc x g c_M_firstBy R_M 6 (some .int) 5) (x1 : Int32) (x2 : Int32) (x3 : Int32) (x4 : Int32) (x5 : Int32) (σ : Sg) (r : (Int32 × Int32 × Sg) ⊕ (Int32 × Sg)) (hf : b_M_firstBy_6 x1 x2 x3 x4 x5 σ = some r) (hi : ∀ a', r = .inl a' → Z x g 6 ρ 6 [(0, .ref (gAd g (6, 0, 0))), (1, .int x1), (2, .int x2), (3, .int x3), (4, .int a'.1), (5, .int a'.2.1)] [] a'.2.2) (he0 : ∀ b, r = .inr b → Z x g 6 ρ 110 [(0, .ref (gAd g (6, 0, 0))), (4, .int b.1)] [] b.2) : Z x g 6 ρ 6 [(0, .ref (gAd g (6, 0, 0))), (1, .int x1), (2, .int x2), (3, .int x3), (4, .int x4), (5, .int x5)] [] σ := by
  unfold b_M_firstBy_6 at hf
  refine z_iload hc d_M_firstBy_6 4 rfl ?_
  refine z_sipush (v := (iI 400)) hc d_M_firstBy_8 (by decide) ?_
  refine z_icmp_gt (tgt := 110) hc d_M_firstBy_11 (by decide) (fun hq => ?_) (fun hq => ?_)
  · have hf := ifp hq hf
    refine z_sub [0, 4] (L' := [(0, .ref (gAd g (6, 0, 0))), (4, .int x4)]) rfl ?_
    exact he0 (x4, σ) (Option.some.inj hf).symm
  · have hf := ifn hq hf
    refine z_iload hc d_M_firstBy_14 5 rfl ?_
    refine z_if_ne (tgt := 110) hc d_M_firstBy_16 (by decide) (fun hq => ?_) (fun hq => ?_)
    · have hf := ifn hq hf
      refine z_sub [0, 4] (L' := [(0, .ref (gAd g (6, 0, 0))), (4, .int x4)]) rfl ?_
      exact he0 (x4, σ) (Option.some.inj hf).symm
    · have hf := ifp hq hf
      refine z_iload_n hc d_M_firstBy_19 1 rfl ?_
      refine z_if_ne (tgt := 40) hc d_M_firstBy_20 (by decide) (fun hq => ?_) (fun hq => ?_)
      · have hf := ifn hq hf
        refine z_iload_n hc d_M_firstBy_40 1 rfl ?_
        refine z_iconst (v := (iI 1)) hc d_M_firstBy_41 (by decide) ?_
        refine z_icmp_ne (tgt := 62) hc d_M_firstBy_42 (by decide) (fun hq => ?_) (fun hq => ?_)
        · have hf := ifn hq hf
          refine z_aload_n hc d_M_firstBy_62 0 rfl ?_
          refine z_iload_n hc d_M_firstBy_63 2 rfl ?_
          obtain ⟨v1, σ2, h3, hf⟩ := bd2 hf
          refine cz_M_72 hc d_M_firstBy_64 (by decide)  h3 (Nat.le_of_ble_eq_true rfl) ?_
          refine z_iload_n hc d_M_firstBy_67 3 rfl ?_
          refine z_icmp_eq (tgt := 75) hc d_M_firstBy_68 (by decide) (fun hq => ?_) (fun hq => ?_)
          · have hf := ifp hq hf
            refine z_iconst (v := (iI 0)) hc d_M_firstBy_75 (by decide) ?_
            refine z_sub [0, 1, 2, 3, 4] (L' := [(0, .ref (gAd g (6, 0, 0))), (1, .int x1), (2, .int x2), (3, .int x3), (4, .int x4)]) rfl ?_
            exact sj_M_firstBy_76 hc x1 x2 x3 x4 (iI 0)   σ2 _ hf hi he0
          · have hf := ifn hq hf
            refine z_iconst (v := (iI 1)) hc d_M_firstBy_71 (by decide) ?_
            refine z_goto (tgt := 76) hc d_M_firstBy_72 (by decide) ?_
            refine z_sub [0, 1, 2, 3, 4] (L' := [(0, .ref (gAd g (6, 0, 0))), (1, .int x1), (2, .int x2), (3, .int x3), (4, .int x4)]) rfl ?_
            exact sj_M_firstBy_76 hc x1 x2 x3 x4 (iI 1)   σ2 _ hf hi he0
        · have hf := ifp hq hf
          refine z_aload_n hc d_M_firstBy_45 0 rfl ?_
          refine z_iload_n hc d_M_firstBy_46 2 rfl ?_
          refine z_iconst (v := (iI 3)) hc d_M_firstBy_47 (by decide) ?_
          obtain ⟨v7, σ8, h9, hf⟩ := bd2 hf
          refine cz_M_53 hc d_M_firstBy_48 (by decide)  h9 (Nat.le_of_ble_eq_true rfl) ?_
          refine z_if_ne (tgt := 58) hc d_M_firstBy_51 (by decide) (fun hq => ?_) (fun hq => ?_)
          · have hf := ifn hq hf
            refine z_iconst (v := (iI 0)) hc d_M_firstBy_58 (by decide) ?_
            refine z_goto (tgt := 76) hc d_M_firstBy_59 (by decide) ?_
            refine z_sub [0, 1, 2, 3, 4] (L' := [(0, .ref (gAd g (6, 0, 0))), (1, .int x1), (2, .int x2), (3, .int x3), (4, .int x4)]) rfl ?_
            exact sj_M_firstBy_76 hc x1 x2 x3 x4 (iI 0)   σ8 _ hf hi he0
          · have hf := ifp hq hf
            refine z_iconst (v := (iI 1)) hc d_M_firstBy_54 (by decide) ?_
            refine z_goto (tgt := 76) hc d_M_firstBy_55 (by decide) ?_
            refine z_sub [0, 1, 2, 3, 4] (L' := [(0, .ref (gAd g (6, 0, 0))), (1, .int x1), (2, .int x2), (3, .int x3), (4, .int x4)]) rfl ?_
            exact sj_M_firstBy_76 hc x1 x2 x3 x4 (iI 1)   σ8 _ hf hi he0
      · have hf := ifp hq hf
        refine z_aload_n hc d_M_firstBy_23 0 rfl ?_
        refine z_iload_n hc d_M_firstBy_24 2 rfl ?_
        refine z_iconst (v := (iI 5)) hc d_M_firstBy_25 (by decide) ?_
        obtain ⟨v10, σ11, h12, hf⟩ := bd2 hf
        refine cz_M_53 hc d_M_firstBy_26 (by decide)  h12 (Nat.le_of_ble_eq_true rfl) ?_
        refine z_if_ge (tgt := 36) hc d_M_firstBy_29 (by decide) (fun hq => ?_) (fun hq => ?_)
        · have hf := ifp hq hf
          refine z_iconst (v := (iI 0)) hc d_M_firstBy_36 (by decide) ?_
          refine z_goto (tgt := 76) hc d_M_firstBy_37 (by decide) ?_
          refine z_sub [0, 1, 2, 3, 4] (L' := [(0, .ref (gAd g (6, 0, 0))), (1, .int x1), (2, .int x2), (3, .int x3), (4, .int x4)]) rfl ?_
          exact sj_M_firstBy_76 hc x1 x2 x3 x4 (iI 0)   σ11 _ hf hi he0
        · have hf := ifn hq hf
          refine z_iconst (v := (iI 1)) hc d_M_firstBy_32 (by decide) ?_
          refine z_goto (tgt := 76) hc d_M_firstBy_33 (by decide) ?_
          refine z_sub [0, 1, 2, 3, 4] (L' := [(0, .ref (gAd g (6, 0, 0))), (1, .int x1), (2, .int x2), (3, .int x3), (4, .int x4)]) rfl ?_
          exact sj_M_firstBy_76 hc x1 x2 x3 x4 (iI 1)   σ11 _ hf hi he0
def j_M_firstBy_110 (x4 : Int32) (σ : Sg) : Option (Int32 × Sg) :=
  b2 (f_M_laysBack  σ) (fun v16 σ17 => some (x4, σ17))
theorem sj_M_firstBy_110 {x : Cx} {g : Gv} {ρ : Option Value × Sg} (hc : Zc x g c_M_firstBy R_M 6 (some .int) 5) (x4 : Int32) (σ : Sg) (r : Int32 × Sg) (hf : j_M_firstBy_110 x4 σ = some r) (hρ : ρ = (some (.int r.1), r.2)) : Z x g 6 ρ 110 [(0, .ref (gAd g (6, 0, 0))), (4, .int x4)] [] σ := by
  unfold j_M_firstBy_110 at hf
  refine z_aload_n hc d_M_firstBy_110 0 rfl ?_
  obtain ⟨v16, σ17, h18, hf⟩ := bd2 hf
  refine cz_M_129 hc d_M_firstBy_111 (by decide)  h18 (Nat.le_of_ble_eq_true rfl) ?_
  refine z_iload hc d_M_firstBy_114 1 rfl ?_
  exact z_iret hc d_M_firstBy_116 (rI hf hρ)
def f_M_firstBy (x1 : Int32) (x2 : Int32) (x3 : Int32) (σ : Sg) : Option (Int32 × Sg) :=
  Option.bind (lp (fun a => b_M_firstBy_6 x1 x2 x3 a.1 a.2.1 a.2.2) FU ((iI 0), (iI 0), σ)) (fun b19 => j_M_firstBy_110 b19.1  b19.2)
theorem ok_M_firstBy (g : Gv) (x1 : Int32) (x2 : Int32) (x3 : Int32) (σ : Sg) (r : Int32 × Sg) (hf : f_M_firstBy x1 x2 x3 σ = some r) : Ok g y_M_firstBy c_M_firstBy 6 (some .int) 5 [.ref (gAd g (6, 0, 0)), .int x1, .int x2, .int x3] σ (some (.int r.1), r.2) := by
  unfold f_M_firstBy at hf
  refine Ok.of [(0, .ref (gAd g (6, 0, 0))), (1, .int x1), (2, .int x2), (3, .int x3)] (by decide) (Nat.le_of_ble_eq_true rfl) rfl ?_
  intro x hc
  have hc : Zc x g c_M_firstBy R_M 6 (some .int) 5 := hc
  obtain ⟨ρ, hρ⟩ : ∃ ρ : Option Value × Sg, ρ = (some (.int r.1), r.2) := ⟨_, rfl⟩
  rw [← hρ]
  refine z_iconst (v := (iI 0)) hc d_M_firstBy_0 (by decide) ?_
  refine z_istore (L' := [(4, .int (iI 0)), (0, .ref (gAd g (6, 0, 0))), (1, .int x1), (2, .int x2), (3, .int x3)]) hc d_M_firstBy_1 (by decide) rfl ?_
  refine z_iconst (v := (iI 0)) hc d_M_firstBy_3 (by decide) ?_
  refine z_istore (L' := [(5, .int (iI 0)), (4, .int (iI 0)), (0, .ref (gAd g (6, 0, 0))), (1, .int x1), (2, .int x2), (3, .int x3)]) hc d_M_firstBy_4 (by decide) rfl ?_
  refine z_sub [2, 3, 4, 5, 1, 0] (L' := [(0, .ref (gAd g (6, 0, 0))), (1, .int x1), (2, .int x2), (3, .int x3), (4, .int (iI 0)), (5, .int (iI 0))]) rfl ?_
  obtain ⟨⟨y14, σ15⟩, hl20, hf⟩ := bd hf
  try dsimp only at hf
  refine lp_walk (α := (Int32 × Int32 × Sg)) (β := (Int32 × Sg)) (body := (fun a : (Int32 × Int32 × Sg) => b_M_firstBy_6 x1 x2 x3 a.1 a.2.1 a.2.2)) (In := (fun a : (Int32 × Int32 × Sg) => Z x g 6 ρ 6 [(0, .ref (gAd g (6, 0, 0))), (1, .int x1), (2, .int x2), (3, .int x3), (4, .int a.1), (5, .int a.2.1)] [] a.2.2)) (Out := (fun b => Z x g 6 ρ 110 [(0, .ref (gAd g (6, 0, 0))), (4, .int b.1)] [] b.2)) (fun a r hb hi ho => sb_M_firstBy_6 hc x1 x2 x3  a.1 a.2.1 a.2.2 r hb hi (fun b e => ho _ e)) FU ((iI 0), (iI 0), σ) _ hl20 ?_
  dsimp only
  refine z_sub [0, 1] (L' := [(0, .ref (gAd g (6, 0, 0))), (4, .int y14)]) rfl ?_
  exact sj_M_firstBy_110 hc y14    σ15 _ hf hρ
def f_M_orNone (x1 : Int32) (σ : Sg) : Option (Int32 × Sg) :=
  (if x1 ≤ (iI 400) then some (x1, σ) else b2 (f_M_no (iI 3) σ) (fun v1 σ2 => some (v1, σ2)))
theorem ok_M_orNone (g : Gv) (x1 : Int32) (σ : Sg) (r : Int32 × Sg) (hf : f_M_orNone x1 σ = some r) : Ok g y_M_orNone c_M_orNone 2 (some .int) 1 [.ref (gAd g (6, 0, 0)), .int x1] σ (some (.int r.1), r.2) := by
  unfold f_M_orNone at hf
  refine Ok.of [(0, .ref (gAd g (6, 0, 0))), (1, .int x1)] (by decide) (Nat.le_of_ble_eq_true rfl) rfl ?_
  intro x hc
  have hc : Zc x g c_M_orNone R_M 2 (some .int) 1 := hc
  obtain ⟨ρ, hρ⟩ : ∃ ρ : Option Value × Sg, ρ = (some (.int r.1), r.2) := ⟨_, rfl⟩
  rw [← hρ]
  refine z_iload_n hc d_M_orNone_0 1 rfl ?_
  refine z_sipush (v := (iI 400)) hc d_M_orNone_1 (by decide) ?_
  refine z_icmp_le (tgt := 15) hc d_M_orNone_4 (by decide) (fun hq => ?_) (fun hq => ?_)
  · have hf := ifp hq hf
    refine z_iload_n hc d_M_orNone_15 1 rfl ?_
    exact z_iret hc d_M_orNone_16 (rI hf hρ)
  · have hf := ifn hq hf
    refine z_aload_n hc d_M_orNone_7 0 rfl ?_
    refine z_iconst (v := (iI 3)) hc d_M_orNone_8 (by decide) ?_
    obtain ⟨v1, σ2, h3, hf⟩ := bd2 hf
    refine cz_M_92 hc d_M_orNone_9 (by decide)  h3 (Nat.le_of_ble_eq_true rfl) ?_
    refine z_goto (tgt := 16) hc d_M_orNone_12 (by decide) ?_
    exact z_iret hc d_M_orNone_16 (rI hf hρ)
theorem vl_M_135 : VL R_M 135 y_M_firstBy c_M_firstBy 6 (some .int) 3 := ⟨tb5 119 (by decide +kernel) (by decide +kernel), tb5 121 (by decide +kernel) (by decide +kernel), tbp 32 (by decide +kernel), tb1 12 (by decide +kernel) (by decide +kernel), k_M_firstBy, by decide, by decide, by decide +kernel, by decide⟩
theorem cz_M_135 {x : Cx} {g : Gv} {cc : ByteArray} {nL d pc : Nat} {ret : Option FieldType} {ρ : Option Value × Sg} {L : List (Nat × Value)} {st : List Value} {σ : Sg} (hc : Zc x g cc R_M nL ret d) (hd : decode cc pc = .ok (.invokevirtual 135, 3)) (hdd : 6 ≤ d) {x1 : Int32} {x2 : Int32} {x3 : Int32} {v : Int32} {σ1 : Sg} (hf : f_M_firstBy x1 x2 x3 σ = some (v, σ1)) (hst : (st.map (fun v => v.category)).sum ≤ 8) (k : Z x g nL ρ (pc + 3) L (.int v :: st) σ1) : Z x g nL ρ pc L (.int x3 :: .int x2 :: .int x1 :: .ref (gAd g (6, 0, 0)) :: st) σ := z_callV (ci := 11) (As := [.int x1, .int x2, .int x3]) hc hd vl_M_135 hdd (6, 0, 0) (dm_M) rfl rfl (ok_M_firstBy g x1 x2 x3 σ (v, σ1) hf) rfl rfl hst rfl k
theorem vl_M_139 : VL R_M 139 y_M_orNone c_M_orNone 2 (some .int) 1 := ⟨tb5 123 (by decide +kernel) (by decide +kernel), tb5 125 (by decide +kernel) (by decide +kernel), tbp 33 (by decide +kernel), tb1 12 (by decide +kernel) (by decide +kernel), k_M_orNone, by decide, by decide, by decide +kernel, by decide⟩
theorem cz_M_139 {x : Cx} {g : Gv} {cc : ByteArray} {nL d pc : Nat} {ret : Option FieldType} {ρ : Option Value × Sg} {L : List (Nat × Value)} {st : List Value} {σ : Sg} (hc : Zc x g cc R_M nL ret d) (hd : decode cc pc = .ok (.invokevirtual 139, 3)) (hdd : 2 ≤ d) {x1 : Int32} {v : Int32} {σ1 : Sg} (hf : f_M_orNone x1 σ = some (v, σ1)) (hst : (st.map (fun v => v.category)).sum ≤ 8) (k : Z x g nL ρ (pc + 3) L (.int v :: st) σ1) : Z x g nL ρ pc L (.int x1 :: .ref (gAd g (6, 0, 0)) :: st) σ := z_callV (ci := 11) (As := [.int x1]) hc hd vl_M_139 hdd (6, 0, 0) (dm_M) rfl rfl (ok_M_orNone g x1 σ (v, σ1) hf) rfl rfl hst rfl k
def f_M_ends (x1 : Int32) (σ : Sg) : Option (Int32 × Sg) :=
  b2 (f_M_isCarpet x1 σ) (fun v1 σ2 => (if v1 = (iI 0) then b2 (f_M_no (iI 0) σ2) (fun v13 σ14 => some (v13, σ14)) else b2 (f_M_setsAside  σ2) (fun v4 σ5 => b2 (f_M_firstBy (iI 0) x1 (iI 0) σ5) (fun v7 σ8 => b2 (f_M_orNone v7 σ8) (fun v10 σ11 => some (v10, σ11))))))
theorem ok_M_ends (g : Gv) (x1 : Int32) (σ : Sg) (r : Int32 × Sg) (hf : f_M_ends x1 σ = some r) : Ok g y_M_ends c_M_ends 2 (some .int) 6 [.ref (gAd g (6, 0, 0)), .int x1] σ (some (.int r.1), r.2) := by
  unfold f_M_ends at hf
  refine Ok.of [(0, .ref (gAd g (6, 0, 0))), (1, .int x1)] (by decide) (Nat.le_of_ble_eq_true rfl) rfl ?_
  intro x hc
  have hc : Zc x g c_M_ends R_M 2 (some .int) 6 := hc
  obtain ⟨ρ, hρ⟩ : ∃ ρ : Option Value × Sg, ρ = (some (.int r.1), r.2) := ⟨_, rfl⟩
  rw [← hρ]
  refine z_aload_n hc d_M_ends_0 0 rfl ?_
  refine z_iload_n hc d_M_ends_1 1 rfl ?_
  obtain ⟨v1, σ2, h3, hf⟩ := bd2 hf
  refine cz_M_113 hc d_M_ends_2 (by decide)  h3 (Nat.le_of_ble_eq_true rfl) ?_
  refine z_if_ne (tgt := 14) hc d_M_ends_5 (by decide) (fun hq => ?_) (fun hq => ?_)
  · have hf := ifn hq hf
    refine z_aload_n hc d_M_ends_14 0 rfl ?_
    obtain ⟨v4, σ5, h6, hf⟩ := bd2 hf
    refine cz_M_126 hc d_M_ends_15 (by decide)  h6 (Nat.le_of_ble_eq_true rfl) ?_
    refine z_aload_n hc d_M_ends_18 0 rfl ?_
    refine z_aload_n hc d_M_ends_19 0 rfl ?_
    refine z_iconst (v := (iI 0)) hc d_M_ends_20 (by decide) ?_
    refine z_iload_n hc d_M_ends_21 1 rfl ?_
    refine z_iconst (v := (iI 0)) hc d_M_ends_22 (by decide) ?_
    obtain ⟨v7, σ8, h9, hf⟩ := bd2 hf
    refine cz_M_135 hc d_M_ends_23 (by decide)  h9 (Nat.le_of_ble_eq_true rfl) ?_
    obtain ⟨v10, σ11, h12, hf⟩ := bd2 hf
    refine cz_M_139 hc d_M_ends_26 (by decide)  h12 (Nat.le_of_ble_eq_true rfl) ?_
    exact z_iret hc d_M_ends_29 (rI hf hρ)
  · have hf := ifp hq hf
    refine z_aload_n hc d_M_ends_8 0 rfl ?_
    refine z_iconst (v := (iI 0)) hc d_M_ends_9 (by decide) ?_
    obtain ⟨v13, σ14, h15, hf⟩ := bd2 hf
    refine cz_M_92 hc d_M_ends_10 (by decide)  h15 (Nat.le_of_ble_eq_true rfl) ?_
    exact z_iret hc d_M_ends_13 (rI hf hρ)
def f_M_bare (x1 : Int32) (σ : Sg) : Option (Int32 × Sg) :=
  b2 (f_M_isCarpet x1 σ) (fun v1 σ2 => (if v1 = (iI 0) then b2 (f_M_no (iI 0) σ2) (fun v13 σ14 => some (v13, σ14)) else b2 (f_M_setsAside  σ2) (fun v4 σ5 => b2 (f_M_firstBy (iI 1) x1 (iI 0) σ5) (fun v7 σ8 => b2 (f_M_orNone v7 σ8) (fun v10 σ11 => some (v10, σ11))))))
theorem ok_M_bare (g : Gv) (x1 : Int32) (σ : Sg) (r : Int32 × Sg) (hf : f_M_bare x1 σ = some r) : Ok g y_M_bare c_M_bare 2 (some .int) 6 [.ref (gAd g (6, 0, 0)), .int x1] σ (some (.int r.1), r.2) := by
  unfold f_M_bare at hf
  refine Ok.of [(0, .ref (gAd g (6, 0, 0))), (1, .int x1)] (by decide) (Nat.le_of_ble_eq_true rfl) rfl ?_
  intro x hc
  have hc : Zc x g c_M_bare R_M 2 (some .int) 6 := hc
  obtain ⟨ρ, hρ⟩ : ∃ ρ : Option Value × Sg, ρ = (some (.int r.1), r.2) := ⟨_, rfl⟩
  rw [← hρ]
  refine z_aload_n hc d_M_bare_0 0 rfl ?_
  refine z_iload_n hc d_M_bare_1 1 rfl ?_
  obtain ⟨v1, σ2, h3, hf⟩ := bd2 hf
  refine cz_M_113 hc d_M_bare_2 (by decide)  h3 (Nat.le_of_ble_eq_true rfl) ?_
  refine z_if_ne (tgt := 14) hc d_M_bare_5 (by decide) (fun hq => ?_) (fun hq => ?_)
  · have hf := ifn hq hf
    refine z_aload_n hc d_M_bare_14 0 rfl ?_
    obtain ⟨v4, σ5, h6, hf⟩ := bd2 hf
    refine cz_M_126 hc d_M_bare_15 (by decide)  h6 (Nat.le_of_ble_eq_true rfl) ?_
    refine z_aload_n hc d_M_bare_18 0 rfl ?_
    refine z_aload_n hc d_M_bare_19 0 rfl ?_
    refine z_iconst (v := (iI 1)) hc d_M_bare_20 (by decide) ?_
    refine z_iload_n hc d_M_bare_21 1 rfl ?_
    refine z_iconst (v := (iI 0)) hc d_M_bare_22 (by decide) ?_
    obtain ⟨v7, σ8, h9, hf⟩ := bd2 hf
    refine cz_M_135 hc d_M_bare_23 (by decide)  h9 (Nat.le_of_ble_eq_true rfl) ?_
    obtain ⟨v10, σ11, h12, hf⟩ := bd2 hf
    refine cz_M_139 hc d_M_bare_26 (by decide)  h12 (Nat.le_of_ble_eq_true rfl) ?_
    exact z_iret hc d_M_bare_29 (rI hf hρ)
  · have hf := ifp hq hf
    refine z_aload_n hc d_M_bare_8 0 rfl ?_
    refine z_iconst (v := (iI 0)) hc d_M_bare_9 (by decide) ?_
    obtain ⟨v13, σ14, h15, hf⟩ := bd2 hf
    refine cz_M_92 hc d_M_bare_10 (by decide)  h15 (Nat.le_of_ble_eq_true rfl) ?_
    exact z_iret hc d_M_bare_13 (rI hf hρ)
def f_M_changes (x1 : Int32) (σ : Sg) : Option (Int32 × Sg) :=
  b2 (f_M_isYard x1 σ) (fun v1 σ2 => (if v1 = (iI 0) then b2 (f_M_no (iI 0) σ2) (fun v16 σ17 => some (v16, σ17)) else b2 (f_M_setsAside  σ2) (fun v4 σ5 => b2 (f_M_whoseIs x1 σ5) (fun v7 σ8 => b2 (f_M_firstBy (iI 2) x1 v7 σ8) (fun v10 σ11 => b2 (f_M_orNone v10 σ11) (fun v13 σ14 => some (v13, σ14)))))))
theorem ok_M_changes (g : Gv) (x1 : Int32) (σ : Sg) (r : Int32 × Sg) (hf : f_M_changes x1 σ = some r) : Ok g y_M_changes c_M_changes 2 (some .int) 6 [.ref (gAd g (6, 0, 0)), .int x1] σ (some (.int r.1), r.2) := by
  unfold f_M_changes at hf
  refine Ok.of [(0, .ref (gAd g (6, 0, 0))), (1, .int x1)] (by decide) (Nat.le_of_ble_eq_true rfl) rfl ?_
  intro x hc
  have hc : Zc x g c_M_changes R_M 2 (some .int) 6 := hc
  obtain ⟨ρ, hρ⟩ : ∃ ρ : Option Value × Sg, ρ = (some (.int r.1), r.2) := ⟨_, rfl⟩
  rw [← hρ]
  refine z_iload_n hc d_M_changes_0 1 rfl ?_
  obtain ⟨v1, σ2, h3, hf⟩ := bd2 hf
  refine cz_M_95 hc d_M_changes_1 (by decide)  h3 (Nat.le_of_ble_eq_true rfl) ?_
  refine z_if_ne (tgt := 13) hc d_M_changes_4 (by decide) (fun hq => ?_) (fun hq => ?_)
  · have hf := ifn hq hf
    refine z_aload_n hc d_M_changes_13 0 rfl ?_
    obtain ⟨v4, σ5, h6, hf⟩ := bd2 hf
    refine cz_M_126 hc d_M_changes_14 (by decide)  h6 (Nat.le_of_ble_eq_true rfl) ?_
    refine z_aload_n hc d_M_changes_17 0 rfl ?_
    refine z_aload_n hc d_M_changes_18 0 rfl ?_
    refine z_iconst (v := (iI 2)) hc d_M_changes_19 (by decide) ?_
    refine z_iload_n hc d_M_changes_20 1 rfl ?_
    refine z_aload_n hc d_M_changes_21 0 rfl ?_
    refine z_iload_n hc d_M_changes_22 1 rfl ?_
    obtain ⟨v7, σ8, h9, hf⟩ := bd2 hf
    refine cz_M_72 hc d_M_changes_23 (by decide)  h9 (Nat.le_of_ble_eq_true rfl) ?_
    obtain ⟨v10, σ11, h12, hf⟩ := bd2 hf
    refine cz_M_135 hc d_M_changes_26 (by decide)  h12 (Nat.le_of_ble_eq_true rfl) ?_
    obtain ⟨v13, σ14, h15, hf⟩ := bd2 hf
    refine cz_M_139 hc d_M_changes_29 (by decide)  h15 (Nat.le_of_ble_eq_true rfl) ?_
    exact z_iret hc d_M_changes_32 (rI hf hρ)
  · have hf := ifp hq hf
    refine z_aload_n hc d_M_changes_7 0 rfl ?_
    refine z_iconst (v := (iI 0)) hc d_M_changes_8 (by decide) ?_
    obtain ⟨v16, σ17, h18, hf⟩ := bd2 hf
    refine cz_M_92 hc d_M_changes_9 (by decide)  h18 (Nat.le_of_ble_eq_true rfl) ?_
    exact z_iret hc d_M_changes_12 (rI hf hρ)
def j_M_best_18 (σ : Sg) : Option (Int32 × Sg) :=
  b2 (f_M_no (iI 0) σ) (fun v4 σ5 => some (v4, σ5))
theorem sj_M_best_18 {x : Cx} {g : Gv} {ρ : Option Value × Sg} (hc : Zc x g c_M_best R_M 7 (some .int) 7) (σ : Sg) (r : Int32 × Sg) (hf : j_M_best_18 σ = some r) (hρ : ρ = (some (.int r.1), r.2)) : Z x g 7 ρ 18 [(0, .ref (gAd g (6, 0, 0)))] [] σ := by
  unfold j_M_best_18 at hf
  refine z_aload_n hc d_M_best_18 0 rfl ?_
  refine z_iconst (v := (iI 0)) hc d_M_best_19 (by decide) ?_
  obtain ⟨v4, σ5, h6, hf⟩ := bd2 hf
  refine cz_M_92 hc d_M_best_20 (by decide)  h6 (Nat.le_of_ble_eq_true rfl) ?_
  exact z_iret hc d_M_best_23 (rI hf hρ)
def j_M_best_91 (x1 : Int32) (x2 : Int32) (x4 : Int32) (x5 : Int32) (x6 : Int32) (xs0 : Int32) (σ : Sg) : Option ((Int32 × Int32 × Int32 × Sg) ⊕ (Int32 × Sg)) :=
  (if x6 ≤ x4 then some (.inl (xs0, x4, x5 + (iI 1), σ)) else some (.inl (xs0, x6, x5 + (iI 1), σ)))
theorem sj_M_best_91 {x : Cx} {g : Gv} {ρ : Option Value × Sg} (hc : Zc x g c_M_best R_M 7 (some .int) 7) (x1 : Int32) (x2 : Int32) (x4 : Int32) (x5 : Int32) (x6 : Int32) (xs0 : Int32) (σ : Sg) (r : (Int32 × Int32 × Int32 × Sg) ⊕ (Int32 × Sg)) (hf : j_M_best_91 x1 x2 x4 x5 x6 xs0 σ = some r) (hi : ∀ a', r = .inl a' → Z x g 7 ρ 47 [(0, .ref (gAd g (6, 0, 0))), (1, .int x1), (2, .int x2), (3, .int a'.1), (4, .int a'.2.1), (5, .int a'.2.2.1)] [] a'.2.2.2) (he0 : ∀ b, r = .inr b → Z x g 7 ρ 114 [(3, .int b.1)] [] b.2) : Z x g 7 ρ 91 [(0, .ref (gAd g (6, 0, 0))), (1, .int x1), (2, .int x2), (4, .int x4), (5, .int x5), (6, .int x6)] [.int xs0] σ := by
  unfold j_M_best_91 at hf
  refine z_istore_n (L' := [(3, .int xs0), (0, .ref (gAd g (6, 0, 0))), (1, .int x1), (2, .int x2), (4, .int x4), (5, .int x5), (6, .int x6)]) hc d_M_best_91 (by decide) rfl ?_
  refine z_iload hc d_M_best_92 6 rfl ?_
  refine z_iload hc d_M_best_94 4 rfl ?_
  refine z_icmp_le (tgt := 104) hc d_M_best_96 (by decide) (fun hq => ?_) (fun hq => ?_)
  · have hf := ifp hq hf
    refine z_iload hc d_M_best_104 4 rfl ?_
    refine z_istore (L' := [(4, .int x4), (3, .int xs0), (0, .ref (gAd g (6, 0, 0))), (1, .int x1), (2, .int x2), (5, .int x5), (6, .int x6)]) hc d_M_best_106 (by decide) rfl ?_
    refine z_iinc (v := x5 + (iI 1)) (L' := [(5, .int (x5 + (iI 1))), (4, .int x4), (3, .int xs0), (0, .ref (gAd g (6, 0, 0))), (1, .int x1), (2, .int x2), (6, .int x6)]) hc d_M_best_108 5 rfl rfl (by decide) rfl ?_
    refine z_goto (tgt := 47) hc d_M_best_111 (by decide) ?_
    refine z_sub [3, 4, 5, 2, 1, 0] (L' := [(0, .ref (gAd g (6, 0, 0))), (1, .int x1), (2, .int x2), (3, .int xs0), (4, .int x4), (5, .int (x5 + (iI 1)))]) rfl ?_
    exact hi (xs0, x4, x5 + (iI 1), σ) (Option.some.inj hf).symm
  · have hf := ifn hq hf
    refine z_iload hc d_M_best_99 6 rfl ?_
    refine z_goto (tgt := 106) hc d_M_best_101 (by decide) ?_
    refine z_istore (L' := [(4, .int x6), (3, .int xs0), (0, .ref (gAd g (6, 0, 0))), (1, .int x1), (2, .int x2), (5, .int x5), (6, .int x6)]) hc d_M_best_106 (by decide) rfl ?_
    refine z_iinc (v := x5 + (iI 1)) (L' := [(5, .int (x5 + (iI 1))), (4, .int x6), (3, .int xs0), (0, .ref (gAd g (6, 0, 0))), (1, .int x1), (2, .int x2), (6, .int x6)]) hc d_M_best_108 5 rfl rfl (by decide) rfl ?_
    refine z_goto (tgt := 47) hc d_M_best_111 (by decide) ?_
    refine z_sub [3, 4, 5, 2, 1, 0] (L' := [(0, .ref (gAd g (6, 0, 0))), (1, .int x1), (2, .int x2), (3, .int xs0), (4, .int x6), (5, .int (x5 + (iI 1)))]) rfl ?_
    exact hi (xs0, x6, x5 + (iI 1), σ) (Option.some.inj hf).symm
def b_M_best_47 (x1 : Int32) (x2 : Int32) (x3 : Int32) (x4 : Int32) (x5 : Int32) (σ : Sg) : Option ((Int32 × Int32 × Int32 × Sg) ⊕ (Int32 × Sg)) :=
  (if (iI 40) ≤ x5 then some (.inr (x3, σ)) else b2 (f_M_setsAside  σ) (fun v13 σ14 => b2 (f_M_rollsOut x1 x5 σ14) (fun v16 σ17 => b2 (f_M_get x1 (iI 1) σ17) (fun v19 σ20 => b2 (f_M_hasThen v19 x2 σ20) (fun v22 σ23 => (if v22 ≤ x4 then j_M_best_91 x1 x2 x4 x5 v22 x3 σ23 else j_M_best_91 x1 x2 x4 x5 v22 x5 σ23))))))
theorem sb_M_best_47 {x : Cx} {g : Gv} {ρ : Option Value × Sg} (hc : Zc x g c_M_best R_M 7 (some .int) 7) (x1 : Int32) (x2 : Int32) (x3 : Int32) (x4 : Int32) (x5 : Int32) (σ : Sg) (r : (Int32 × Int32 × Int32 × Sg) ⊕ (Int32 × Sg)) (hf : b_M_best_47 x1 x2 x3 x4 x5 σ = some r) (hi : ∀ a', r = .inl a' → Z x g 7 ρ 47 [(0, .ref (gAd g (6, 0, 0))), (1, .int x1), (2, .int x2), (3, .int a'.1), (4, .int a'.2.1), (5, .int a'.2.2.1)] [] a'.2.2.2) (he0 : ∀ b, r = .inr b → Z x g 7 ρ 114 [(3, .int b.1)] [] b.2) : Z x g 7 ρ 47 [(0, .ref (gAd g (6, 0, 0))), (1, .int x1), (2, .int x2), (3, .int x3), (4, .int x4), (5, .int x5)] [] σ := by
  unfold b_M_best_47 at hf
  refine z_iload hc d_M_best_47 5 rfl ?_
  refine z_bipush (v := (iI 40)) hc d_M_best_49 (by decide) ?_
  refine z_icmp_ge (tgt := 114) hc d_M_best_51 (by decide) (fun hq => ?_) (fun hq => ?_)
  · have hf := ifp hq hf
    refine z_sub [3] (L' := [(3, .int x3)]) rfl ?_
    exact he0 (x3, σ) (Option.some.inj hf).symm
  · have hf := ifn hq hf
    refine z_aload_n hc d_M_best_54 0 rfl ?_
    obtain ⟨v13, σ14, h15, hf⟩ := bd2 hf
    refine cz_M_126 hc d_M_best_55 (by decide)  h15 (Nat.le_of_ble_eq_true rfl) ?_
    refine z_aload_n hc d_M_best_58 0 rfl ?_
    refine z_iload_n hc d_M_best_59 1 rfl ?_
    refine z_iload hc d_M_best_60 5 rfl ?_
    obtain ⟨v16, σ17, h18, hf⟩ := bd2 hf
    refine cz_M_120 hc d_M_best_62 (by decide)  h18 (Nat.le_of_ble_eq_true rfl) ?_
    refine z_aload_n hc d_M_best_65 0 rfl ?_
    refine z_aload_n hc d_M_best_66 0 rfl ?_
    refine z_iload_n hc d_M_best_67 1 rfl ?_
    refine z_iconst (v := (iI 1)) hc d_M_best_68 (by decide) ?_
    obtain ⟨v19, σ20, h21, hf⟩ := bd2 hf
    refine cz_M_53 hc d_M_best_69 (by decide)  h21 (Nat.le_of_ble_eq_true rfl) ?_
    refine z_iload_n hc d_M_best_72 2 rfl ?_
    obtain ⟨v22, σ23, h24, hf⟩ := bd2 hf
    refine cz_M_132 hc d_M_best_73 (by decide)  h24 (Nat.le_of_ble_eq_true rfl) ?_
    refine z_istore (L' := [(6, .int v22), (0, .ref (gAd g (6, 0, 0))), (1, .int x1), (2, .int x2), (3, .int x3), (4, .int x4), (5, .int x5)]) hc d_M_best_76 (by decide) rfl ?_
    refine z_iload hc d_M_best_78 0 rfl ?_
    refine z_iload hc d_M_best_80 5 rfl ?_
    refine z_icmp_le (tgt := 90) hc d_M_best_82 (by decide) (fun hq => ?_) (fun hq => ?_)
    · have hf := ifp hq hf
      refine z_iload_n hc d_M_best_90 4 rfl ?_
      refine z_sub [1, 2, 3, 5, 6, 0] (L' := [(0, .ref (gAd g (6, 0, 0))), (1, .int x1), (2, .int x2), (4, .int x4), (5, .int x5), (6, .int v22)]) rfl ?_
      exact sj_M_best_91 hc x1 x2 x4 x5 v22 x3   σ23 _ hf hi he0
    · have hf := ifn hq hf
      refine z_iload hc d_M_best_85 6 rfl ?_
      refine z_goto (tgt := 91) hc d_M_best_87 (by decide) ?_
      refine z_sub [1, 2, 3, 5, 6, 0] (L' := [(0, .ref (gAd g (6, 0, 0))), (1, .int x1), (2, .int x2), (4, .int x4), (5, .int x5), (6, .int v22)]) rfl ?_
      exact sj_M_best_91 hc x1 x2 x4 x5 v22 x5   σ23 _ hf hi he0
def f_M_best (x1 : Int32) (x2 : Int32) (σ : Sg) : Option (Int32 × Sg) :=
  b2 (f_M_isCarpet x1 σ) (fun v1 σ2 => (if v1 = (iI 0) then j_M_best_18   σ2 else b2 (f_M_in1 x2 (iI 0) (iI 60) σ2) (fun v7 σ8 => (if v7 = (iI 0) then j_M_best_18   σ8 else b2 (f_M_get x1 (iI 3) σ8) (fun v10 σ11 => (if v10 = (iI 0) then b2 (f_M_no (iI 4) σ11) (fun v30 σ31 => some (v30, σ31)) else Option.bind (lp (fun a => b_M_best_47 x1 x2 a.1 a.2.1 a.2.2.1 a.2.2.2) FU ((iI 0), (iI (-1)), (iI 0), σ11)) (fun b28 => some (b28.1, b28.2))))))))
theorem ok_M_best (g : Gv) (x1 : Int32) (x2 : Int32) (σ : Sg) (r : Int32 × Sg) (hf : f_M_best x1 x2 σ = some r) : Ok g y_M_best c_M_best 7 (some .int) 7 [.ref (gAd g (6, 0, 0)), .int x1, .int x2] σ (some (.int r.1), r.2) := by
  unfold f_M_best at hf
  refine Ok.of [(0, .ref (gAd g (6, 0, 0))), (1, .int x1), (2, .int x2)] (by decide) (Nat.le_of_ble_eq_true rfl) rfl ?_
  intro x hc
  have hc : Zc x g c_M_best R_M 7 (some .int) 7 := hc
  obtain ⟨ρ, hρ⟩ : ∃ ρ : Option Value × Sg, ρ = (some (.int r.1), r.2) := ⟨_, rfl⟩
  rw [← hρ]
  refine z_aload_n hc d_M_best_0 0 rfl ?_
  refine z_iload_n hc d_M_best_1 1 rfl ?_
  obtain ⟨v1, σ2, h3, hf⟩ := bd2 hf
  refine cz_M_113 hc d_M_best_2 (by decide)  h3 (Nat.le_of_ble_eq_true rfl) ?_
  refine z_if_eq (tgt := 18) hc d_M_best_5 (by decide) (fun hq => ?_) (fun hq => ?_)
  · have hf := ifp hq hf
    refine z_sub [0] (L' := [(0, .ref (gAd g (6, 0, 0)))]) rfl ?_
    exact sj_M_best_18 hc     σ2 _ hf hρ
  · have hf := ifn hq hf
    refine z_iload_n hc d_M_best_8 2 rfl ?_
    refine z_iconst (v := (iI 0)) hc d_M_best_9 (by decide) ?_
    refine z_bipush (v := (iI 60)) hc d_M_best_10 (by decide) ?_
    obtain ⟨v7, σ8, h9, hf⟩ := bd2 hf
    refine cz_M_49 hc d_M_best_12 (by decide)  h9 (Nat.le_of_ble_eq_true rfl) ?_
    refine z_if_ne (tgt := 24) hc d_M_best_15 (by decide) (fun hq => ?_) (fun hq => ?_)
    · have hf := ifn hq hf
      refine z_aload_n hc d_M_best_24 0 rfl ?_
      refine z_iload_n hc d_M_best_25 1 rfl ?_
      refine z_iconst (v := (iI 3)) hc d_M_best_26 (by decide) ?_
      obtain ⟨v10, σ11, h12, hf⟩ := bd2 hf
      refine cz_M_53 hc d_M_best_27 (by decide)  h12 (Nat.le_of_ble_eq_true rfl) ?_
      refine z_if_ne (tgt := 39) hc d_M_best_30 (by decide) (fun hq => ?_) (fun hq => ?_)
      · have hf := ifn hq hf
        refine z_iconst (v := (iI 0)) hc d_M_best_39 (by decide) ?_
        refine z_istore_n (L' := [(3, .int (iI 0)), (0, .ref (gAd g (6, 0, 0))), (1, .int x1), (2, .int x2)]) hc d_M_best_40 (by decide) rfl ?_
        refine z_iconst (v := (iI (-1))) hc d_M_best_41 (by decide) ?_
        refine z_istore (L' := [(4, .int (iI (-1))), (3, .int (iI 0)), (0, .ref (gAd g (6, 0, 0))), (1, .int x1), (2, .int x2)]) hc d_M_best_42 (by decide) rfl ?_
        refine z_iconst (v := (iI 0)) hc d_M_best_44 (by decide) ?_
        refine z_istore (L' := [(5, .int (iI 0)), (4, .int (iI (-1))), (3, .int (iI 0)), (0, .ref (gAd g (6, 0, 0))), (1, .int x1), (2, .int x2)]) hc d_M_best_45 (by decide) rfl ?_
        refine z_sub [3, 4, 5, 2, 1, 0] (L' := [(0, .ref (gAd g (6, 0, 0))), (1, .int x1), (2, .int x2), (3, .int (iI 0)), (4, .int (iI (-1))), (5, .int (iI 0))]) rfl ?_
        obtain ⟨⟨y26, σ27⟩, hl29, hf⟩ := bd hf
        try dsimp only at hf
        refine lp_walk (α := (Int32 × Int32 × Int32 × Sg)) (β := (Int32 × Sg)) (body := (fun a : (Int32 × Int32 × Int32 × Sg) => b_M_best_47 x1 x2 a.1 a.2.1 a.2.2.1 a.2.2.2)) (In := (fun a : (Int32 × Int32 × Int32 × Sg) => Z x g 7 ρ 47 [(0, .ref (gAd g (6, 0, 0))), (1, .int x1), (2, .int x2), (3, .int a.1), (4, .int a.2.1), (5, .int a.2.2.1)] [] a.2.2.2)) (Out := (fun b => Z x g 7 ρ 114 [(3, .int b.1)] [] b.2)) (fun a r hb hi ho => sb_M_best_47 hc x1 x2  a.1 a.2.1 a.2.2.1 a.2.2.2 r hb hi (fun b e => ho _ e)) FU ((iI 0), (iI (-1)), (iI 0), σ11) _ hl29 ?_
        dsimp only
        refine z_iload_n hc d_M_best_114 0 rfl ?_
        exact z_iret hc d_M_best_115 (rI hf hρ)
      · have hf := ifp hq hf
        refine z_aload_n hc d_M_best_33 0 rfl ?_
        refine z_iconst (v := (iI 4)) hc d_M_best_34 (by decide) ?_
        obtain ⟨v30, σ31, h32, hf⟩ := bd2 hf
        refine cz_M_92 hc d_M_best_35 (by decide)  h32 (Nat.le_of_ble_eq_true rfl) ?_
        exact z_iret hc d_M_best_38 (rI hf hρ)
    · have hf := ifp hq hf
      refine z_sub [0] (L' := [(0, .ref (gAd g (6, 0, 0)))]) rfl ?_
      exact sj_M_best_18 hc     σ8 _ hf hρ
def j_M_take_19 (σ : Sg) : Option (Int32 × Sg) :=
  b2 (f_M_no (iI 0) σ) (fun v4 σ5 => some (v4, σ5))
theorem sj_M_take_19 {x : Cx} {g : Gv} {ρ : Option Value × Sg} (hc : Zc x g c_M_take R_M 9 (some .int) 7) (σ : Sg) (r : Int32 × Sg) (hf : j_M_take_19 σ = some r) (hρ : ρ = (some (.int r.1), r.2)) : Z x g 9 ρ 19 [(0, .ref (gAd g (6, 0, 0)))] [] σ := by
  unfold j_M_take_19 at hf
  refine z_aload_n hc d_M_take_19 0 rfl ?_
  refine z_iconst (v := (iI 0)) hc d_M_take_20 (by decide) ?_
  obtain ⟨v4, σ5, h6, hf⟩ := bd2 hf
  refine cz_M_92 hc d_M_take_21 (by decide)  h6 (Nat.le_of_ble_eq_true rfl) ?_
  exact z_iret hc d_M_take_24 (rI hf hρ)
def j_M_take_106 (x1 : Int32) (x2 : Int32) (x4 : Int32) (x5 : Int32) (x6 : Int32) (x7 : Int32) (x8 : Int32) (xs0 : Int32) (σ : Sg) : Option ((Int32 × Int32 × Int32 × Sg) ⊕ (Int32 × Sg)) :=
  (if x8 = (iI 0) then some (.inl (xs0, x4, x6 + (iI 1), σ)) else some (.inl (xs0, x7, x6 + (iI 1), σ)))
theorem sj_M_take_106 {x : Cx} {g : Gv} {ρ : Option Value × Sg} (hc : Zc x g c_M_take R_M 9 (some .int) 7) (x1 : Int32) (x2 : Int32) (x4 : Int32) (x5 : Int32) (x6 : Int32) (x7 : Int32) (x8 : Int32) (xs0 : Int32) (σ : Sg) (r : (Int32 × Int32 × Int32 × Sg) ⊕ (Int32 × Sg)) (hf : j_M_take_106 x1 x2 x4 x5 x6 x7 x8 xs0 σ = some r) (hi : ∀ a', r = .inl a' → Z x g 9 ρ 39 [(0, .ref (gAd g (6, 0, 0))), (1, .int x1), (2, .int x2), (3, .int a'.1), (4, .int a'.2.1), (5, .int x5), (6, .int a'.2.2.1)] [] a'.2.2.2) (he0 : ∀ b, r = .inr b → Z x g 9 ρ 127 [(0, .ref (gAd g (6, 0, 0))), (3, .int b.1)] [] b.2) : Z x g 9 ρ 106 [(0, .ref (gAd g (6, 0, 0))), (1, .int x1), (2, .int x2), (4, .int x4), (5, .int x5), (6, .int x6), (7, .int x7), (8, .int x8)] [.int xs0] σ := by
  unfold j_M_take_106 at hf
  refine z_istore_n (L' := [(3, .int xs0), (0, .ref (gAd g (6, 0, 0))), (1, .int x1), (2, .int x2), (4, .int x4), (5, .int x5), (6, .int x6), (7, .int x7), (8, .int x8)]) hc d_M_take_106 (by decide) rfl ?_
  refine z_iload hc d_M_take_107 8 rfl ?_
  refine z_if_eq (tgt := 117) hc d_M_take_109 (by decide) (fun hq => ?_) (fun hq => ?_)
  · have hf := ifp hq hf
    refine z_iload hc d_M_take_117 4 rfl ?_
    refine z_istore (L' := [(4, .int x4), (3, .int xs0), (0, .ref (gAd g (6, 0, 0))), (1, .int x1), (2, .int x2), (5, .int x5), (6, .int x6), (7, .int x7), (8, .int x8)]) hc d_M_take_119 (by decide) rfl ?_
    refine z_iinc (v := x6 + (iI 1)) (L' := [(6, .int (x6 + (iI 1))), (4, .int x4), (3, .int xs0), (0, .ref (gAd g (6, 0, 0))), (1, .int x1), (2, .int x2), (5, .int x5), (7, .int x7), (8, .int x8)]) hc d_M_take_121 6 rfl rfl (by decide) rfl ?_
    refine z_goto (tgt := 39) hc d_M_take_124 (by decide) ?_
    refine z_sub [3, 4, 5, 2, 1, 6, 0] (L' := [(0, .ref (gAd g (6, 0, 0))), (1, .int x1), (2, .int x2), (3, .int xs0), (4, .int x4), (5, .int x5), (6, .int (x6 + (iI 1)))]) rfl ?_
    exact hi (xs0, x4, x6 + (iI 1), σ) (Option.some.inj hf).symm
  · have hf := ifn hq hf
    refine z_iload hc d_M_take_112 7 rfl ?_
    refine z_goto (tgt := 119) hc d_M_take_114 (by decide) ?_
    refine z_istore (L' := [(4, .int x7), (3, .int xs0), (0, .ref (gAd g (6, 0, 0))), (1, .int x1), (2, .int x2), (5, .int x5), (6, .int x6), (7, .int x7), (8, .int x8)]) hc d_M_take_119 (by decide) rfl ?_
    refine z_iinc (v := x6 + (iI 1)) (L' := [(6, .int (x6 + (iI 1))), (4, .int x7), (3, .int xs0), (0, .ref (gAd g (6, 0, 0))), (1, .int x1), (2, .int x2), (5, .int x5), (7, .int x7), (8, .int x8)]) hc d_M_take_121 6 rfl rfl (by decide) rfl ?_
    refine z_goto (tgt := 39) hc d_M_take_124 (by decide) ?_
    refine z_sub [3, 4, 5, 2, 1, 6, 0] (L' := [(0, .ref (gAd g (6, 0, 0))), (1, .int x1), (2, .int x2), (3, .int xs0), (4, .int x7), (5, .int x5), (6, .int (x6 + (iI 1)))]) rfl ?_
    exact hi (xs0, x7, x6 + (iI 1), σ) (Option.some.inj hf).symm
def j_M_take_93 (x1 : Int32) (x2 : Int32) (x3 : Int32) (x4 : Int32) (x5 : Int32) (x6 : Int32) (x7 : Int32) (xs0 : Int32) (σ : Sg) : Option ((Int32 × Int32 × Int32 × Sg) ⊕ (Int32 × Sg)) :=
  (if xs0 = (iI 0) then j_M_take_106 x1 x2 x4 x5 x6 x7 xs0 x3 σ else j_M_take_106 x1 x2 x4 x5 x6 x7 xs0 x6 σ)
theorem sj_M_take_93 {x : Cx} {g : Gv} {ρ : Option Value × Sg} (hc : Zc x g c_M_take R_M 9 (some .int) 7) (x1 : Int32) (x2 : Int32) (x3 : Int32) (x4 : Int32) (x5 : Int32) (x6 : Int32) (x7 : Int32) (xs0 : Int32) (σ : Sg) (r : (Int32 × Int32 × Int32 × Sg) ⊕ (Int32 × Sg)) (hf : j_M_take_93 x1 x2 x3 x4 x5 x6 x7 xs0 σ = some r) (hi : ∀ a', r = .inl a' → Z x g 9 ρ 39 [(0, .ref (gAd g (6, 0, 0))), (1, .int x1), (2, .int x2), (3, .int a'.1), (4, .int a'.2.1), (5, .int x5), (6, .int a'.2.2.1)] [] a'.2.2.2) (he0 : ∀ b, r = .inr b → Z x g 9 ρ 127 [(0, .ref (gAd g (6, 0, 0))), (3, .int b.1)] [] b.2) : Z x g 9 ρ 93 [(0, .ref (gAd g (6, 0, 0))), (1, .int x1), (2, .int x2), (3, .int x3), (4, .int x4), (5, .int x5), (6, .int x6), (7, .int x7)] [.int xs0] σ := by
  unfold j_M_take_93 at hf
  refine z_istore (L' := [(8, .int xs0), (0, .ref (gAd g (6, 0, 0))), (1, .int x1), (2, .int x2), (3, .int x3), (4, .int x4), (5, .int x5), (6, .int x6), (7, .int x7)]) hc d_M_take_93 (by decide) rfl ?_
  refine z_iload hc d_M_take_95 0 rfl ?_
  refine z_if_eq (tgt := 105) hc d_M_take_97 (by decide) (fun hq => ?_) (fun hq => ?_)
  · have hf := ifp hq hf
    refine z_iload_n hc d_M_take_105 4 rfl ?_
    refine z_sub [1, 2, 3, 5, 6, 7, 8, 0] (L' := [(0, .ref (gAd g (6, 0, 0))), (1, .int x1), (2, .int x2), (4, .int x4), (5, .int x5), (6, .int x6), (7, .int x7), (8, .int xs0)]) rfl ?_
    exact sj_M_take_106 hc x1 x2 x4 x5 x6 x7 xs0 x3   σ _ hf hi he0
  · have hf := ifn hq hf
    refine z_iload hc d_M_take_100 7 rfl ?_
    refine z_goto (tgt := 106) hc d_M_take_102 (by decide) ?_
    refine z_sub [1, 2, 3, 5, 6, 7, 8, 0] (L' := [(0, .ref (gAd g (6, 0, 0))), (1, .int x1), (2, .int x2), (4, .int x4), (5, .int x5), (6, .int x6), (7, .int x7), (8, .int xs0)]) rfl ?_
    exact sj_M_take_106 hc x1 x2 x4 x5 x6 x7 xs0 x6   σ _ hf hi he0
def b_M_take_39 (x1 : Int32) (x2 : Int32) (x5 : Int32) (x3 : Int32) (x4 : Int32) (x6 : Int32) (σ : Sg) : Option ((Int32 × Int32 × Int32 × Sg) ⊕ (Int32 × Sg)) :=
  Option.bind (rd (iI 2) 66) (fun j13 => (if (σ.1 20 0 0 j13) ≤ x6 then some (.inr (x3, σ)) else b2 (f_M_setsAside  σ) (fun v15 σ16 => b2 (f_M_puts x6 (iI 5) (iI (-1)) σ16) (fun v18 σ19 => b2 (f_M_hasThen x1 x2 σ19) (fun v21 σ22 => (if ((x5 >>> (x6 &&& 31)) &&& (iI 1)) = (iI 1) then (if v21 ≤ x4 then j_M_take_93 x1 x2 x3 x4 x5 x6 v21 (iI 0) σ22 else j_M_take_93 x1 x2 x3 x4 x5 x6 v21 (iI 1) σ22) else j_M_take_93 x1 x2 x3 x4 x5 x6 v21 (iI 0) σ22))))))
theorem sb_M_take_39 {x : Cx} {g : Gv} {ρ : Option Value × Sg} (hc : Zc x g c_M_take R_M 9 (some .int) 7) (x1 : Int32) (x2 : Int32) (x5 : Int32) (x3 : Int32) (x4 : Int32) (x6 : Int32) (σ : Sg) (r : (Int32 × Int32 × Int32 × Sg) ⊕ (Int32 × Sg)) (hf : b_M_take_39 x1 x2 x5 x3 x4 x6 σ = some r) (hi : ∀ a', r = .inl a' → Z x g 9 ρ 39 [(0, .ref (gAd g (6, 0, 0))), (1, .int x1), (2, .int x2), (3, .int a'.1), (4, .int a'.2.1), (5, .int x5), (6, .int a'.2.2.1)] [] a'.2.2.2) (he0 : ∀ b, r = .inr b → Z x g 9 ρ 127 [(0, .ref (gAd g (6, 0, 0))), (3, .int b.1)] [] b.2) : Z x g 9 ρ 39 [(0, .ref (gAd g (6, 0, 0))), (1, .int x1), (2, .int x2), (3, .int x3), (4, .int x4), (5, .int x5), (6, .int x6)] [] σ := by
  unfold b_M_take_39 at hf
  refine z_iload hc d_M_take_39 6 rfl ?_
  refine z_aload_n hc d_M_take_41 0 rfl ?_
  refine gf_M_9 hc d_M_take_42  ?_
  refine z_iconst (v := (iI 2)) hc d_M_take_45 (by decide) ?_
  obtain ⟨j13, hj14, hf⟩ := bd hf
  refine ald_ms hc d_M_take_46  hj14 ?_
  refine z_icmp_ge (tgt := 127) hc d_M_take_47 (by decide) (fun hq => ?_) (fun hq => ?_)
  · have hf := ifp hq hf
    refine z_sub [0, 3] (L' := [(0, .ref (gAd g (6, 0, 0))), (3, .int x3)]) rfl ?_
    exact he0 (x3, σ) (Option.some.inj hf).symm
  · have hf := ifn hq hf
    refine z_aload_n hc d_M_take_50 0 rfl ?_
    obtain ⟨v15, σ16, h17, hf⟩ := bd2 hf
    refine cz_M_126 hc d_M_take_51 (by decide)  h17 (Nat.le_of_ble_eq_true rfl) ?_
    refine z_aload_n hc d_M_take_54 0 rfl ?_
    refine z_iload hc d_M_take_55 6 rfl ?_
    refine z_iconst (v := (iI 5)) hc d_M_take_57 (by decide) ?_
    refine z_iconst (v := (iI (-1))) hc d_M_take_58 (by decide) ?_
    obtain ⟨v18, σ19, h20, hf⟩ := bd2 hf
    refine cz_M_78 hc d_M_take_59 (by decide)  h20 (Nat.le_of_ble_eq_true rfl) ?_
    refine z_aload_n hc d_M_take_62 0 rfl ?_
    refine z_iload_n hc d_M_take_63 1 rfl ?_
    refine z_iload_n hc d_M_take_64 2 rfl ?_
    obtain ⟨v21, σ22, h23, hf⟩ := bd2 hf
    refine cz_M_132 hc d_M_take_65 (by decide)  h23 (Nat.le_of_ble_eq_true rfl) ?_
    refine z_istore (L' := [(7, .int v21), (0, .ref (gAd g (6, 0, 0))), (1, .int x1), (2, .int x2), (3, .int x3), (4, .int x4), (5, .int x5), (6, .int x6)]) hc d_M_take_68 (by decide) rfl ?_
    refine z_iload hc d_M_take_70 6 rfl ?_
    refine z_iload hc d_M_take_72 7 rfl ?_
    refine z_ishr hc d_M_take_74 ?_
    refine z_iconst (v := (iI 1)) hc d_M_take_75 (by decide) ?_
    refine z_iand hc d_M_take_76 ?_
    refine z_iconst (v := (iI 1)) hc d_M_take_77 (by decide) ?_
    refine z_icmp_ne (tgt := 92) hc d_M_take_78 (by decide) (fun hq => ?_) (fun hq => ?_)
    · have hf := ifn hq hf
      refine z_iconst (v := (iI 0)) hc d_M_take_92 (by decide) ?_
      refine z_sub [1, 2, 3, 4, 5, 6, 7, 0] (L' := [(0, .ref (gAd g (6, 0, 0))), (1, .int x1), (2, .int x2), (3, .int x3), (4, .int x4), (5, .int x5), (6, .int x6), (7, .int v21)]) rfl ?_
      exact sj_M_take_93 hc x1 x2 x3 x4 x5 x6 v21 (iI 0)   σ22 _ hf hi he0
    · have hf := ifp hq hf
      refine z_iload hc d_M_take_81 0 rfl ?_
      refine z_iload hc d_M_take_83 5 rfl ?_
      refine z_icmp_le (tgt := 92) hc d_M_take_85 (by decide) (fun hq => ?_) (fun hq => ?_)
      · have hf := ifp hq hf
        refine z_iconst (v := (iI 0)) hc d_M_take_92 (by decide) ?_
        refine z_sub [1, 2, 3, 4, 5, 6, 7, 0] (L' := [(0, .ref (gAd g (6, 0, 0))), (1, .int x1), (2, .int x2), (3, .int x3), (4, .int x4), (5, .int x5), (6, .int x6), (7, .int v21)]) rfl ?_
        exact sj_M_take_93 hc x1 x2 x3 x4 x5 x6 v21 (iI 0)   σ22 _ hf hi he0
      · have hf := ifn hq hf
        refine z_iconst (v := (iI 1)) hc d_M_take_88 (by decide) ?_
        refine z_goto (tgt := 93) hc d_M_take_89 (by decide) ?_
        refine z_sub [1, 2, 3, 4, 5, 6, 7, 0] (L' := [(0, .ref (gAd g (6, 0, 0))), (1, .int x1), (2, .int x2), (3, .int x3), (4, .int x4), (5, .int x5), (6, .int x6), (7, .int v21)]) rfl ?_
        exact sj_M_take_93 hc x1 x2 x3 x4 x5 x6 v21 (iI 1)   σ22 _ hf hi he0
def f_M_take (x1 : Int32) (x2 : Int32) (σ : Sg) : Option (Int32 × Sg) :=
  b2 (f_M_in1 x1 (iI 0) (iI 3) σ) (fun v1 σ2 => (if v1 = (iI 0) then j_M_take_19   σ2 else b2 (f_M_in1 x2 (iI 0) (iI 60) σ2) (fun v7 σ8 => (if v7 = (iI 0) then j_M_take_19   σ8 else b2 (f_M_rolledOut  σ8) (fun v10 σ11 => Option.bind (lp (fun a => b_M_take_39 x1 x2 v10 a.1 a.2.1 a.2.2.1 a.2.2.2) FU ((iI (-1)), (iI (-1)), (iI 0), σ11)) (fun b30 => (if (iI 0) ≤ b30.1 then some (b30.1, b30.2) else b2 (f_M_no (iI 3) b30.2) (fun v27 σ28 => some (v27, σ28)))))))))
theorem ok_M_take (g : Gv) (x1 : Int32) (x2 : Int32) (σ : Sg) (r : Int32 × Sg) (hf : f_M_take x1 x2 σ = some r) : Ok g y_M_take c_M_take 9 (some .int) 7 [.ref (gAd g (6, 0, 0)), .int x1, .int x2] σ (some (.int r.1), r.2) := by
  unfold f_M_take at hf
  refine Ok.of [(0, .ref (gAd g (6, 0, 0))), (1, .int x1), (2, .int x2)] (by decide) (Nat.le_of_ble_eq_true rfl) rfl ?_
  intro x hc
  have hc : Zc x g c_M_take R_M 9 (some .int) 7 := hc
  obtain ⟨ρ, hρ⟩ : ∃ ρ : Option Value × Sg, ρ = (some (.int r.1), r.2) := ⟨_, rfl⟩
  rw [← hρ]
  refine z_iload_n hc d_M_take_0 1 rfl ?_
  refine z_iconst (v := (iI 0)) hc d_M_take_1 (by decide) ?_
  refine z_iconst (v := (iI 3)) hc d_M_take_2 (by decide) ?_
  obtain ⟨v1, σ2, h3, hf⟩ := bd2 hf
  refine cz_M_49 hc d_M_take_3 (by decide)  h3 (Nat.le_of_ble_eq_true rfl) ?_
  refine z_if_eq (tgt := 19) hc d_M_take_6 (by decide) (fun hq => ?_) (fun hq => ?_)
  · have hf := ifp hq hf
    refine z_sub [0] (L' := [(0, .ref (gAd g (6, 0, 0)))]) rfl ?_
    exact sj_M_take_19 hc     σ2 _ hf hρ
  · have hf := ifn hq hf
    refine z_iload_n hc d_M_take_9 2 rfl ?_
    refine z_iconst (v := (iI 0)) hc d_M_take_10 (by decide) ?_
    refine z_bipush (v := (iI 60)) hc d_M_take_11 (by decide) ?_
    obtain ⟨v7, σ8, h9, hf⟩ := bd2 hf
    refine cz_M_49 hc d_M_take_13 (by decide)  h9 (Nat.le_of_ble_eq_true rfl) ?_
    refine z_if_ne (tgt := 25) hc d_M_take_16 (by decide) (fun hq => ?_) (fun hq => ?_)
    · have hf := ifn hq hf
      refine z_iconst (v := (iI (-1))) hc d_M_take_25 (by decide) ?_
      refine z_istore_n (L' := [(3, .int (iI (-1))), (0, .ref (gAd g (6, 0, 0))), (1, .int x1), (2, .int x2)]) hc d_M_take_26 (by decide) rfl ?_
      refine z_iconst (v := (iI (-1))) hc d_M_take_27 (by decide) ?_
      refine z_istore (L' := [(4, .int (iI (-1))), (3, .int (iI (-1))), (0, .ref (gAd g (6, 0, 0))), (1, .int x1), (2, .int x2)]) hc d_M_take_28 (by decide) rfl ?_
      refine z_aload_n hc d_M_take_30 2 rfl ?_
      obtain ⟨v10, σ11, h12, hf⟩ := bd2 hf
      refine cz_M_102 hc d_M_take_31 (by decide)  h12 (Nat.le_of_ble_eq_true rfl) ?_
      refine z_istore (L' := [(5, .int v10), (4, .int (iI (-1))), (3, .int (iI (-1))), (0, .ref (gAd g (6, 0, 0))), (1, .int x1), (2, .int x2)]) hc d_M_take_34 (by decide) rfl ?_
      refine z_iconst (v := (iI 0)) hc d_M_take_36 (by decide) ?_
      refine z_istore (L' := [(6, .int (iI 0)), (5, .int v10), (4, .int (iI (-1))), (3, .int (iI (-1))), (0, .ref (gAd g (6, 0, 0))), (1, .int x1), (2, .int x2)]) hc d_M_take_37 (by decide) rfl ?_
      refine z_sub [4, 5, 6, 3, 2, 1, 0] (L' := [(0, .ref (gAd g (6, 0, 0))), (1, .int x1), (2, .int x2), (3, .int (iI (-1))), (4, .int (iI (-1))), (5, .int v10), (6, .int (iI 0))]) rfl ?_
      obtain ⟨⟨y25, σ26⟩, hl31, hf⟩ := bd hf
      try dsimp only at hf
      refine lp_walk (α := (Int32 × Int32 × Int32 × Sg)) (β := (Int32 × Sg)) (body := (fun a : (Int32 × Int32 × Int32 × Sg) => b_M_take_39 x1 x2 v10 a.1 a.2.1 a.2.2.1 a.2.2.2)) (In := (fun a : (Int32 × Int32 × Int32 × Sg) => Z x g 9 ρ 39 [(0, .ref (gAd g (6, 0, 0))), (1, .int x1), (2, .int x2), (3, .int a.1), (4, .int a.2.1), (5, .int v10), (6, .int a.2.2.1)] [] a.2.2.2)) (Out := (fun b => Z x g 9 ρ 127 [(0, .ref (gAd g (6, 0, 0))), (3, .int b.1)] [] b.2)) (fun a r hb hi ho => sb_M_take_39 hc x1 x2 v10  a.1 a.2.1 a.2.2.1 a.2.2.2 r hb hi (fun b e => ho _ e)) FU ((iI (-1)), (iI (-1)), (iI 0), σ11) _ hl31 ?_
      dsimp only
      refine z_iload_n hc d_M_take_127 1 rfl ?_
      refine z_if_ge (tgt := 139) hc d_M_take_128 (by decide) (fun hq => ?_) (fun hq => ?_)
      · have hf := ifp hq hf
        refine z_iload_n hc d_M_take_139 1 rfl ?_
        exact z_iret hc d_M_take_140 (rI hf hρ)
      · have hf := ifn hq hf
        refine z_aload_n hc d_M_take_131 0 rfl ?_
        refine z_iconst (v := (iI 3)) hc d_M_take_132 (by decide) ?_
        obtain ⟨v27, σ28, h29, hf⟩ := bd2 hf
        refine cz_M_92 hc d_M_take_133 (by decide)  h29 (Nat.le_of_ble_eq_true rfl) ?_
        refine z_goto (tgt := 140) hc d_M_take_136 (by decide) ?_
        exact z_iret hc d_M_take_140 (rI hf hρ)
    · have hf := ifp hq hf
      refine z_sub [0] (L' := [(0, .ref (gAd g (6, 0, 0)))]) rfl ?_
      exact sj_M_take_19 hc     σ8 _ hf hρ
def j_M_kind_61 (x1 : Int32) (x3 : Int32) (x4 : Int32) (x5 : Int32) (xs0 : Int32) (σ : Sg) : Option ((Int32 × Int32 × Int32 × Sg) ⊕ (Int32 × Sg)) :=
  (if x5 ≤ x3 then some (.inl (xs0, x3, x4 + (iI 1), σ)) else some (.inl (xs0, x5, x4 + (iI 1), σ)))
theorem sj_M_kind_61 {x : Cx} {g : Gv} {ρ : Option Value × Sg} (hc : Zc x g c_M_kind R_M 6 (some .int) 6) (x1 : Int32) (x3 : Int32) (x4 : Int32) (x5 : Int32) (xs0 : Int32) (σ : Sg) (r : (Int32 × Int32 × Int32 × Sg) ⊕ (Int32 × Sg)) (hf : j_M_kind_61 x1 x3 x4 x5 xs0 σ = some r) (hi : ∀ a', r = .inl a' → Z x g 6 ρ 21 [(0, .ref (gAd g (6, 0, 0))), (1, .int x1), (2, .int a'.1), (3, .int a'.2.1), (4, .int a'.2.2.1)] [] a'.2.2.2) (he0 : ∀ b, r = .inr b → Z x g 6 ρ 81 [(2, .int b.1)] [] b.2) : Z x g 6 ρ 61 [(0, .ref (gAd g (6, 0, 0))), (1, .int x1), (3, .int x3), (4, .int x4), (5, .int x5)] [.int xs0] σ := by
  unfold j_M_kind_61 at hf
  refine z_istore_n (L' := [(2, .int xs0), (0, .ref (gAd g (6, 0, 0))), (1, .int x1), (3, .int x3), (4, .int x4), (5, .int x5)]) hc d_M_kind_61 (by decide) rfl ?_
  refine z_iload hc d_M_kind_62 5 rfl ?_
  refine z_iload_n hc d_M_kind_64 3 rfl ?_
  refine z_icmp_le (tgt := 73) hc d_M_kind_65 (by decide) (fun hq => ?_) (fun hq => ?_)
  · have hf := ifp hq hf
    refine z_iload_n hc d_M_kind_73 3 rfl ?_
    refine z_istore_n (L' := [(3, .int x3), (2, .int xs0), (0, .ref (gAd g (6, 0, 0))), (1, .int x1), (4, .int x4), (5, .int x5)]) hc d_M_kind_74 (by decide) rfl ?_
    refine z_iinc (v := x4 + (iI 1)) (L' := [(4, .int (x4 + (iI 1))), (3, .int x3), (2, .int xs0), (0, .ref (gAd g (6, 0, 0))), (1, .int x1), (5, .int x5)]) hc d_M_kind_75 4 rfl rfl (by decide) rfl ?_
    refine z_goto (tgt := 21) hc d_M_kind_78 (by decide) ?_
    refine z_sub [3, 4, 2, 1, 0] (L' := [(0, .ref (gAd g (6, 0, 0))), (1, .int x1), (2, .int xs0), (3, .int x3), (4, .int (x4 + (iI 1)))]) rfl ?_
    exact hi (xs0, x3, x4 + (iI 1), σ) (Option.some.inj hf).symm
  · have hf := ifn hq hf
    refine z_iload hc d_M_kind_68 5 rfl ?_
    refine z_goto (tgt := 74) hc d_M_kind_70 (by decide) ?_
    refine z_istore_n (L' := [(3, .int x5), (2, .int xs0), (0, .ref (gAd g (6, 0, 0))), (1, .int x1), (4, .int x4), (5, .int x5)]) hc d_M_kind_74 (by decide) rfl ?_
    refine z_iinc (v := x4 + (iI 1)) (L' := [(4, .int (x4 + (iI 1))), (3, .int x5), (2, .int xs0), (0, .ref (gAd g (6, 0, 0))), (1, .int x1), (5, .int x5)]) hc d_M_kind_75 4 rfl rfl (by decide) rfl ?_
    refine z_goto (tgt := 21) hc d_M_kind_78 (by decide) ?_
    refine z_sub [3, 4, 2, 1, 0] (L' := [(0, .ref (gAd g (6, 0, 0))), (1, .int x1), (2, .int xs0), (3, .int x5), (4, .int (x4 + (iI 1)))]) rfl ?_
    exact hi (xs0, x5, x4 + (iI 1), σ) (Option.some.inj hf).symm
def b_M_kind_21 (x1 : Int32) (x2 : Int32) (x3 : Int32) (x4 : Int32) (σ : Sg) : Option ((Int32 × Int32 × Int32 × Sg) ⊕ (Int32 × Sg)) :=
  (if (iI 6) ≤ x4 then some (.inr (x2, σ)) else b2 (f_M_setsAside  σ) (fun v4 σ5 => b2 (f_M_puts x1 (iI 0) x4 σ5) (fun v7 σ8 => b2 (f_M_firstBy (iI 0) x1 (iI 0) σ8) (fun v10 σ11 => (if v10 ≤ x3 then j_M_kind_61 x1 x3 x4 v10 x2 σ11 else j_M_kind_61 x1 x3 x4 v10 x4 σ11)))))
theorem sb_M_kind_21 {x : Cx} {g : Gv} {ρ : Option Value × Sg} (hc : Zc x g c_M_kind R_M 6 (some .int) 6) (x1 : Int32) (x2 : Int32) (x3 : Int32) (x4 : Int32) (σ : Sg) (r : (Int32 × Int32 × Int32 × Sg) ⊕ (Int32 × Sg)) (hf : b_M_kind_21 x1 x2 x3 x4 σ = some r) (hi : ∀ a', r = .inl a' → Z x g 6 ρ 21 [(0, .ref (gAd g (6, 0, 0))), (1, .int x1), (2, .int a'.1), (3, .int a'.2.1), (4, .int a'.2.2.1)] [] a'.2.2.2) (he0 : ∀ b, r = .inr b → Z x g 6 ρ 81 [(2, .int b.1)] [] b.2) : Z x g 6 ρ 21 [(0, .ref (gAd g (6, 0, 0))), (1, .int x1), (2, .int x2), (3, .int x3), (4, .int x4)] [] σ := by
  unfold b_M_kind_21 at hf
  refine z_iload hc d_M_kind_21 4 rfl ?_
  refine z_bipush (v := (iI 6)) hc d_M_kind_23 (by decide) ?_
  refine z_icmp_ge (tgt := 81) hc d_M_kind_25 (by decide) (fun hq => ?_) (fun hq => ?_)
  · have hf := ifp hq hf
    refine z_sub [2] (L' := [(2, .int x2)]) rfl ?_
    exact he0 (x2, σ) (Option.some.inj hf).symm
  · have hf := ifn hq hf
    refine z_aload_n hc d_M_kind_28 0 rfl ?_
    obtain ⟨v4, σ5, h6, hf⟩ := bd2 hf
    refine cz_M_126 hc d_M_kind_29 (by decide)  h6 (Nat.le_of_ble_eq_true rfl) ?_
    refine z_aload_n hc d_M_kind_32 0 rfl ?_
    refine z_iload_n hc d_M_kind_33 1 rfl ?_
    refine z_iconst (v := (iI 0)) hc d_M_kind_34 (by decide) ?_
    refine z_iload hc d_M_kind_35 4 rfl ?_
    obtain ⟨v7, σ8, h9, hf⟩ := bd2 hf
    refine cz_M_78 hc d_M_kind_37 (by decide)  h9 (Nat.le_of_ble_eq_true rfl) ?_
    refine z_aload_n hc d_M_kind_40 0 rfl ?_
    refine z_iconst (v := (iI 0)) hc d_M_kind_41 (by decide) ?_
    refine z_iload_n hc d_M_kind_42 1 rfl ?_
    refine z_iconst (v := (iI 0)) hc d_M_kind_43 (by decide) ?_
    obtain ⟨v10, σ11, h12, hf⟩ := bd2 hf
    refine cz_M_135 hc d_M_kind_44 (by decide)  h12 (Nat.le_of_ble_eq_true rfl) ?_
    refine z_istore (L' := [(5, .int v10), (0, .ref (gAd g (6, 0, 0))), (1, .int x1), (2, .int x2), (3, .int x3), (4, .int x4)]) hc d_M_kind_47 (by decide) rfl ?_
    refine z_iload hc d_M_kind_49 0 rfl ?_
    refine z_iload_n hc d_M_kind_51 4 rfl ?_
    refine z_icmp_le (tgt := 60) hc d_M_kind_52 (by decide) (fun hq => ?_) (fun hq => ?_)
    · have hf := ifp hq hf
      refine z_iload_n hc d_M_kind_60 3 rfl ?_
      refine z_sub [1, 2, 4, 5, 0] (L' := [(0, .ref (gAd g (6, 0, 0))), (1, .int x1), (3, .int x3), (4, .int x4), (5, .int v10)]) rfl ?_
      exact sj_M_kind_61 hc x1 x3 x4 v10 x2   σ11 _ hf hi he0
    · have hf := ifn hq hf
      refine z_iload hc d_M_kind_55 5 rfl ?_
      refine z_goto (tgt := 61) hc d_M_kind_57 (by decide) ?_
      refine z_sub [1, 2, 4, 5, 0] (L' := [(0, .ref (gAd g (6, 0, 0))), (1, .int x1), (3, .int x3), (4, .int x4), (5, .int v10)]) rfl ?_
      exact sj_M_kind_61 hc x1 x3 x4 v10 x4   σ11 _ hf hi he0
def f_M_kind (x1 : Int32) (σ : Sg) : Option (Int32 × Sg) :=
  b2 (f_M_isCarpet x1 σ) (fun v1 σ2 => (if v1 = (iI 0) then b2 (f_M_no (iI 0) σ2) (fun v18 σ19 => some (v18, σ19)) else Option.bind (lp (fun a => b_M_kind_21 x1 a.1 a.2.1 a.2.2.1 a.2.2.2) FU ((iI 0), (iI (-1)), (iI 0), σ2)) (fun b16 => some (b16.1, b16.2))))
theorem ok_M_kind (g : Gv) (x1 : Int32) (σ : Sg) (r : Int32 × Sg) (hf : f_M_kind x1 σ = some r) : Ok g y_M_kind c_M_kind 6 (some .int) 6 [.ref (gAd g (6, 0, 0)), .int x1] σ (some (.int r.1), r.2) := by
  unfold f_M_kind at hf
  refine Ok.of [(0, .ref (gAd g (6, 0, 0))), (1, .int x1)] (by decide) (Nat.le_of_ble_eq_true rfl) rfl ?_
  intro x hc
  have hc : Zc x g c_M_kind R_M 6 (some .int) 6 := hc
  obtain ⟨ρ, hρ⟩ : ∃ ρ : Option Value × Sg, ρ = (some (.int r.1), r.2) := ⟨_, rfl⟩
  rw [← hρ]
  refine z_aload_n hc d_M_kind_0 0 rfl ?_
  refine z_iload_n hc d_M_kind_1 1 rfl ?_
  obtain ⟨v1, σ2, h3, hf⟩ := bd2 hf
  refine cz_M_113 hc d_M_kind_2 (by decide)  h3 (Nat.le_of_ble_eq_true rfl) ?_
  refine z_if_ne (tgt := 14) hc d_M_kind_5 (by decide) (fun hq => ?_) (fun hq => ?_)
  · have hf := ifn hq hf
    refine z_iconst (v := (iI 0)) hc d_M_kind_14 (by decide) ?_
    refine z_istore_n (L' := [(2, .int (iI 0)), (0, .ref (gAd g (6, 0, 0))), (1, .int x1)]) hc d_M_kind_15 (by decide) rfl ?_
    refine z_iconst (v := (iI (-1))) hc d_M_kind_16 (by decide) ?_
    refine z_istore_n (L' := [(3, .int (iI (-1))), (2, .int (iI 0)), (0, .ref (gAd g (6, 0, 0))), (1, .int x1)]) hc d_M_kind_17 (by decide) rfl ?_
    refine z_iconst (v := (iI 0)) hc d_M_kind_18 (by decide) ?_
    refine z_istore (L' := [(4, .int (iI 0)), (3, .int (iI (-1))), (2, .int (iI 0)), (0, .ref (gAd g (6, 0, 0))), (1, .int x1)]) hc d_M_kind_19 (by decide) rfl ?_
    refine z_sub [3, 4, 2, 1, 0] (L' := [(0, .ref (gAd g (6, 0, 0))), (1, .int x1), (2, .int (iI 0)), (3, .int (iI (-1))), (4, .int (iI 0))]) rfl ?_
    obtain ⟨⟨y14, σ15⟩, hl17, hf⟩ := bd hf
    try dsimp only at hf
    refine lp_walk (α := (Int32 × Int32 × Int32 × Sg)) (β := (Int32 × Sg)) (body := (fun a : (Int32 × Int32 × Int32 × Sg) => b_M_kind_21 x1 a.1 a.2.1 a.2.2.1 a.2.2.2)) (In := (fun a : (Int32 × Int32 × Int32 × Sg) => Z x g 6 ρ 21 [(0, .ref (gAd g (6, 0, 0))), (1, .int x1), (2, .int a.1), (3, .int a.2.1), (4, .int a.2.2.1)] [] a.2.2.2)) (Out := (fun b => Z x g 6 ρ 81 [(2, .int b.1)] [] b.2)) (fun a r hb hi ho => sb_M_kind_21 hc x1  a.1 a.2.1 a.2.2.1 a.2.2.2 r hb hi (fun b e => ho _ e)) FU ((iI 0), (iI (-1)), (iI 0), σ2) _ hl17 ?_
    dsimp only
    refine z_iload_n hc d_M_kind_81 0 rfl ?_
    exact z_iret hc d_M_kind_82 (rI hf hρ)
  · have hf := ifp hq hf
    refine z_aload_n hc d_M_kind_8 0 rfl ?_
    refine z_iconst (v := (iI 0)) hc d_M_kind_9 (by decide) ?_
    obtain ⟨v18, σ19, h20, hf⟩ := bd2 hf
    refine cz_M_92 hc d_M_kind_10 (by decide)  h20 (Nat.le_of_ble_eq_true rfl) ?_
    exact z_iret hc d_M_kind_13 (rI hf hρ)
def j_M_enough_18 (σ : Sg) : Option (Int32 × Sg) :=
  b2 (f_M_no (iI 0) σ) (fun v4 σ5 => some (v4, σ5))
theorem sj_M_enough_18 {x : Cx} {g : Gv} {ρ : Option Value × Sg} (hc : Zc x g c_M_enough R_M 5 (some .int) 4) (σ : Sg) (r : Int32 × Sg) (hf : j_M_enough_18 σ = some r) (hρ : ρ = (some (.int r.1), r.2)) : Z x g 5 ρ 18 [(0, .ref (gAd g (6, 0, 0)))] [] σ := by
  unfold j_M_enough_18 at hf
  refine z_aload_n hc d_M_enough_18 0 rfl ?_
  refine z_iconst (v := (iI 0)) hc d_M_enough_19 (by decide) ?_
  obtain ⟨v4, σ5, h6, hf⟩ := bd2 hf
  refine cz_M_92 hc d_M_enough_20 (by decide)  h6 (Nat.le_of_ble_eq_true rfl) ?_
  exact z_iret hc d_M_enough_23 (rI hf hρ)
def j_M_enough_62 (x1 : Int32) (x2 : Int32) (x3 : Int32) (xs0 : Int32) (σ : Sg) : Option ((Int32 × Sg) ⊕ ((Int32 × Sg) ⊕ (Sg))) :=
  b2 (f_M_laysBack  σ) (fun v22 σ23 => (if xs0 = (iI 0) then some (.inl (x3 + (iI 1), σ23)) else some (.inr (.inl (x3, σ23)))))
theorem sj_M_enough_62 {x : Cx} {g : Gv} {ρ : Option Value × Sg} (hc : Zc x g c_M_enough R_M 5 (some .int) 4) (x1 : Int32) (x2 : Int32) (x3 : Int32) (xs0 : Int32) (σ : Sg) (r : (Int32 × Sg) ⊕ ((Int32 × Sg) ⊕ (Sg))) (hf : j_M_enough_62 x1 x2 x3 xs0 σ = some r) (hi : ∀ a', r = .inl a' → Z x g 5 ρ 26 [(0, .ref (gAd g (6, 0, 0))), (1, .int x1), (2, .int x2), (3, .int a'.1)] [] a'.2) (he0 : ∀ b, r = .inr (.inl b) → Z x g 5 ρ 73 [(3, .int b.1)] [] b.2) (he1 : ∀ b, r = .inr (.inr b) → Z x g 5 ρ 81 [(0, .ref (gAd g (6, 0, 0)))] [] b) : Z x g 5 ρ 62 [(0, .ref (gAd g (6, 0, 0))), (1, .int x1), (2, .int x2), (3, .int x3)] [.int xs0] σ := by
  unfold j_M_enough_62 at hf
  refine z_istore (L' := [(4, .int xs0), (0, .ref (gAd g (6, 0, 0))), (1, .int x1), (2, .int x2), (3, .int x3)]) hc d_M_enough_62 (by decide) rfl ?_
  refine z_aload_n hc d_M_enough_64 1 rfl ?_
  obtain ⟨v22, σ23, h24, hf⟩ := bd2 hf
  refine cz_M_129 hc d_M_enough_65 (by decide)  h24 (Nat.le_of_ble_eq_true rfl) ?_
  refine z_iload hc d_M_enough_68 0 rfl ?_
  refine z_if_eq (tgt := 75) hc d_M_enough_70 (by decide) (fun hq => ?_) (fun hq => ?_)
  · have hf := ifp hq hf
    refine z_iinc (v := x3 + (iI 1)) (L' := [(3, .int (x3 + (iI 1))), (4, .int xs0), (0, .ref (gAd g (6, 0, 0))), (1, .int x1), (2, .int x2)]) hc d_M_enough_75 4 rfl rfl (by decide) rfl ?_
    refine z_goto (tgt := 26) hc d_M_enough_78 (by decide) ?_
    refine z_sub [2, 3, 4, 0] (L' := [(0, .ref (gAd g (6, 0, 0))), (1, .int x1), (2, .int x2), (3, .int (x3 + (iI 1)))]) rfl ?_
    exact hi (x3 + (iI 1), σ23) (Option.some.inj hf).symm
  · have hf := ifn hq hf
    refine z_sub [4] (L' := [(3, .int x3)]) rfl ?_
    exact he0 (x3, σ23) (Option.some.inj hf).symm
def b_M_enough_26 (x1 : Int32) (x2 : Int32) (x3 : Int32) (σ : Sg) : Option ((Int32 × Sg) ⊕ ((Int32 × Sg) ⊕ (Sg))) :=
  (if (iI 100) ≤ x3 then some (.inr (.inr σ)) else b2 (f_M_setsAside  σ) (fun v10 σ11 => b2 (f_M_puts x1 (iI 3) x3 σ11) (fun v13 σ14 => b2 (f_M_goes x2 σ14) (fun v16 σ17 => b2 (f_M_get x1 (iI 5) σ17) (fun v19 σ20 => (if v19 < (iI 0) then j_M_enough_62 x1 x2 x3 (iI 0) σ20 else j_M_enough_62 x1 x2 x3 (iI 1) σ20))))))
theorem sb_M_enough_26 {x : Cx} {g : Gv} {ρ : Option Value × Sg} (hc : Zc x g c_M_enough R_M 5 (some .int) 4) (x1 : Int32) (x2 : Int32) (x3 : Int32) (σ : Sg) (r : (Int32 × Sg) ⊕ ((Int32 × Sg) ⊕ (Sg))) (hf : b_M_enough_26 x1 x2 x3 σ = some r) (hi : ∀ a', r = .inl a' → Z x g 5 ρ 26 [(0, .ref (gAd g (6, 0, 0))), (1, .int x1), (2, .int x2), (3, .int a'.1)] [] a'.2) (he0 : ∀ b, r = .inr (.inl b) → Z x g 5 ρ 73 [(3, .int b.1)] [] b.2) (he1 : ∀ b, r = .inr (.inr b) → Z x g 5 ρ 81 [(0, .ref (gAd g (6, 0, 0)))] [] b) : Z x g 5 ρ 26 [(0, .ref (gAd g (6, 0, 0))), (1, .int x1), (2, .int x2), (3, .int x3)] [] σ := by
  unfold b_M_enough_26 at hf
  refine z_iload_n hc d_M_enough_26 3 rfl ?_
  refine z_bipush (v := (iI 100)) hc d_M_enough_27 (by decide) ?_
  refine z_icmp_ge (tgt := 81) hc d_M_enough_29 (by decide) (fun hq => ?_) (fun hq => ?_)
  · have hf := ifp hq hf
    refine z_sub [0] (L' := [(0, .ref (gAd g (6, 0, 0)))]) rfl ?_
    exact he1 σ (Option.some.inj hf).symm
  · have hf := ifn hq hf
    refine z_aload_n hc d_M_enough_32 0 rfl ?_
    obtain ⟨v10, σ11, h12, hf⟩ := bd2 hf
    refine cz_M_126 hc d_M_enough_33 (by decide)  h12 (Nat.le_of_ble_eq_true rfl) ?_
    refine z_aload_n hc d_M_enough_36 0 rfl ?_
    refine z_iload_n hc d_M_enough_37 1 rfl ?_
    refine z_iconst (v := (iI 3)) hc d_M_enough_38 (by decide) ?_
    refine z_iload_n hc d_M_enough_39 3 rfl ?_
    obtain ⟨v13, σ14, h15, hf⟩ := bd2 hf
    refine cz_M_78 hc d_M_enough_40 (by decide)  h15 (Nat.le_of_ble_eq_true rfl) ?_
    refine z_aload_n hc d_M_enough_43 0 rfl ?_
    refine z_iload_n hc d_M_enough_44 2 rfl ?_
    obtain ⟨v16, σ17, h18, hf⟩ := bd2 hf
    refine cz_M_123 hc d_M_enough_45 (by decide)  h18 (Nat.le_of_ble_eq_true rfl) ?_
    refine z_aload_n hc d_M_enough_48 0 rfl ?_
    refine z_iload_n hc d_M_enough_49 1 rfl ?_
    refine z_iconst (v := (iI 5)) hc d_M_enough_50 (by decide) ?_
    obtain ⟨v19, σ20, h21, hf⟩ := bd2 hf
    refine cz_M_53 hc d_M_enough_51 (by decide)  h21 (Nat.le_of_ble_eq_true rfl) ?_
    refine z_if_lt (tgt := 61) hc d_M_enough_54 (by decide) (fun hq => ?_) (fun hq => ?_)
    · have hf := ifp hq hf
      refine z_iconst (v := (iI 0)) hc d_M_enough_61 (by decide) ?_
      refine z_sub [0, 1, 2, 3] (L' := [(0, .ref (gAd g (6, 0, 0))), (1, .int x1), (2, .int x2), (3, .int x3)]) rfl ?_
      exact sj_M_enough_62 hc x1 x2 x3 (iI 0)   σ20 _ hf hi he0 he1
    · have hf := ifn hq hf
      refine z_iconst (v := (iI 1)) hc d_M_enough_57 (by decide) ?_
      refine z_goto (tgt := 62) hc d_M_enough_58 (by decide) ?_
      refine z_sub [0, 1, 2, 3] (L' := [(0, .ref (gAd g (6, 0, 0))), (1, .int x1), (2, .int x2), (3, .int x3)]) rfl ?_
      exact sj_M_enough_62 hc x1 x2 x3 (iI 1)   σ20 _ hf hi he0 he1
def f_M_enough (x1 : Int32) (x2 : Int32) (σ : Sg) : Option (Int32 × Sg) :=
  b2 (f_M_isCarpet x1 σ) (fun v1 σ2 => (if v1 = (iI 0) then j_M_enough_18   σ2 else b2 (f_M_in1 x2 (iI 1) (iI 60) σ2) (fun v7 σ8 => (if v7 = (iI 0) then j_M_enough_18   σ8 else Option.bind (lp (fun a => b_M_enough_26 x1 x2 a.1 a.2) FU ((iI 0), σ8)) (fun z => Sum.elim (fun b32 => some (b32.1, b32.2)) (fun b33 => b2 (f_M_no (iI 3) b33) (fun v29 σ30 => some (v29, σ30))) z)))))
theorem ok_M_enough (g : Gv) (x1 : Int32) (x2 : Int32) (σ : Sg) (r : Int32 × Sg) (hf : f_M_enough x1 x2 σ = some r) : Ok g y_M_enough c_M_enough 5 (some .int) 4 [.ref (gAd g (6, 0, 0)), .int x1, .int x2] σ (some (.int r.1), r.2) := by
  unfold f_M_enough at hf
  refine Ok.of [(0, .ref (gAd g (6, 0, 0))), (1, .int x1), (2, .int x2)] (by decide) (Nat.le_of_ble_eq_true rfl) rfl ?_
  intro x hc
  have hc : Zc x g c_M_enough R_M 5 (some .int) 4 := hc
  obtain ⟨ρ, hρ⟩ : ∃ ρ : Option Value × Sg, ρ = (some (.int r.1), r.2) := ⟨_, rfl⟩
  rw [← hρ]
  refine z_aload_n hc d_M_enough_0 0 rfl ?_
  refine z_iload_n hc d_M_enough_1 1 rfl ?_
  obtain ⟨v1, σ2, h3, hf⟩ := bd2 hf
  refine cz_M_113 hc d_M_enough_2 (by decide)  h3 (Nat.le_of_ble_eq_true rfl) ?_
  refine z_if_eq (tgt := 18) hc d_M_enough_5 (by decide) (fun hq => ?_) (fun hq => ?_)
  · have hf := ifp hq hf
    refine z_sub [0] (L' := [(0, .ref (gAd g (6, 0, 0)))]) rfl ?_
    exact sj_M_enough_18 hc     σ2 _ hf hρ
  · have hf := ifn hq hf
    refine z_iload_n hc d_M_enough_8 2 rfl ?_
    refine z_iconst (v := (iI 1)) hc d_M_enough_9 (by decide) ?_
    refine z_bipush (v := (iI 60)) hc d_M_enough_10 (by decide) ?_
    obtain ⟨v7, σ8, h9, hf⟩ := bd2 hf
    refine cz_M_49 hc d_M_enough_12 (by decide)  h9 (Nat.le_of_ble_eq_true rfl) ?_
    refine z_if_ne (tgt := 24) hc d_M_enough_15 (by decide) (fun hq => ?_) (fun hq => ?_)
    · have hf := ifn hq hf
      refine z_iconst (v := (iI 0)) hc d_M_enough_24 (by decide) ?_
      refine z_istore_n (L' := [(3, .int (iI 0)), (0, .ref (gAd g (6, 0, 0))), (1, .int x1), (2, .int x2)]) hc d_M_enough_25 (by decide) rfl ?_
      refine z_sub [1, 2, 3, 0] (L' := [(0, .ref (gAd g (6, 0, 0))), (1, .int x1), (2, .int x2), (3, .int (iI 0))]) rfl ?_
      obtain ⟨q25, hl34, hf⟩ := bd hf
      refine lp_walk (α := (Int32 × Sg)) (β := ((Int32 × Sg) ⊕ (Sg))) (body := (fun a : (Int32 × Sg) => b_M_enough_26 x1 x2 a.1 a.2)) (In := (fun a : (Int32 × Sg) => Z x g 5 ρ 26 [(0, .ref (gAd g (6, 0, 0))), (1, .int x1), (2, .int x2), (3, .int a.1)] [] a.2)) (Out := (Sum.elim (fun b => Z x g 5 ρ 73 [(3, .int b.1)] [] b.2) (fun b => Z x g 5 ρ 81 [(0, .ref (gAd g (6, 0, 0)))] [] b))) (fun a r hb hi ho => sb_M_enough_26 hc x1 x2  a.1 a.2 r hb hi (fun b e => ho _ e) (fun b e => ho _ e)) FU ((iI 0), σ8) _ hl34 ?_
      rcases q25 with ⟨y26, σ27⟩ | q25
      · try dsimp only [Sum.elim_inl, Sum.elim_inr] at hf
        try dsimp only [Sum.elim_inl, Sum.elim_inr]
        refine z_iload_n hc d_M_enough_73 0 rfl ?_
        exact z_iret hc d_M_enough_74 (rI hf hρ)
      try dsimp only [Sum.elim_inl, Sum.elim_inr] at hf
      try dsimp only [Sum.elim_inl, Sum.elim_inr]
      · obtain ⟨σ28, rfl⟩ : ∃ z, z = q25 := ⟨_, rfl⟩
        try dsimp only [Sum.elim_inl, Sum.elim_inr] at hf
        try dsimp only [Sum.elim_inl, Sum.elim_inr]
        refine z_aload_n hc d_M_enough_81 0 rfl ?_
        refine z_iconst (v := (iI 3)) hc d_M_enough_82 (by decide) ?_
        obtain ⟨v29, σ30, h31, hf⟩ := bd2 hf
        refine cz_M_92 hc d_M_enough_83 (by decide)  h31 (Nat.le_of_ble_eq_true rfl) ?_
        exact z_iret hc d_M_enough_86 (rI hf hρ)
    · have hf := ifp hq hf
      refine z_sub [0] (L' := [(0, .ref (gAd g (6, 0, 0)))]) rfl ?_
      exact sj_M_enough_18 hc     σ8 _ hf hρ
def j_M_weather_82 (x1 : Int32) (x3 : Int32) (x4 : Int32) (x5 : Int32) (xs0 : Int32) (σ : Sg) : Option ((Int32 × Int32 × Int32 × Sg) ⊕ (Int32 × Sg)) :=
  (if x5 ≤ x3 then some (.inl (xs0, x3, x4 + (iI 1), σ)) else some (.inl (xs0, x5, x4 + (iI 1), σ)))
theorem sj_M_weather_82 {x : Cx} {g : Gv} {ρ : Option Value × Sg} (hc : Zc x g c_M_weather R_M 6 (some .int) 4) (x1 : Int32) (x3 : Int32) (x4 : Int32) (x5 : Int32) (xs0 : Int32) (σ : Sg) (r : (Int32 × Int32 × Int32 × Sg) ⊕ (Int32 × Sg)) (hf : j_M_weather_82 x1 x3 x4 x5 xs0 σ = some r) (hi : ∀ a', r = .inl a' → Z x g 6 ρ 23 [(0, .ref (gAd g (6, 0, 0))), (1, .int x1), (2, .int a'.1), (3, .int a'.2.1), (4, .int a'.2.2.1)] [] a'.2.2.2) (he0 : ∀ b, r = .inr b → Z x g 6 ρ 102 [(2, .int b.1)] [] b.2) : Z x g 6 ρ 82 [(0, .ref (gAd g (6, 0, 0))), (1, .int x1), (3, .int x3), (4, .int x4), (5, .int x5)] [.int xs0] σ := by
  unfold j_M_weather_82 at hf
  refine z_istore_n (L' := [(2, .int xs0), (0, .ref (gAd g (6, 0, 0))), (1, .int x1), (3, .int x3), (4, .int x4), (5, .int x5)]) hc d_M_weather_82 (by decide) rfl ?_
  refine z_iload hc d_M_weather_83 5 rfl ?_
  refine z_iload_n hc d_M_weather_85 3 rfl ?_
  refine z_icmp_le (tgt := 94) hc d_M_weather_86 (by decide) (fun hq => ?_) (fun hq => ?_)
  · have hf := ifp hq hf
    refine z_iload_n hc d_M_weather_94 3 rfl ?_
    refine z_istore_n (L' := [(3, .int x3), (2, .int xs0), (0, .ref (gAd g (6, 0, 0))), (1, .int x1), (4, .int x4), (5, .int x5)]) hc d_M_weather_95 (by decide) rfl ?_
    refine z_iinc (v := x4 + (iI 1)) (L' := [(4, .int (x4 + (iI 1))), (3, .int x3), (2, .int xs0), (0, .ref (gAd g (6, 0, 0))), (1, .int x1), (5, .int x5)]) hc d_M_weather_96 4 rfl rfl (by decide) rfl ?_
    refine z_goto (tgt := 23) hc d_M_weather_99 (by decide) ?_
    refine z_sub [3, 4, 2, 1, 0] (L' := [(0, .ref (gAd g (6, 0, 0))), (1, .int x1), (2, .int xs0), (3, .int x3), (4, .int (x4 + (iI 1)))]) rfl ?_
    exact hi (xs0, x3, x4 + (iI 1), σ) (Option.some.inj hf).symm
  · have hf := ifn hq hf
    refine z_iload hc d_M_weather_89 5 rfl ?_
    refine z_goto (tgt := 95) hc d_M_weather_91 (by decide) ?_
    refine z_istore_n (L' := [(3, .int x5), (2, .int xs0), (0, .ref (gAd g (6, 0, 0))), (1, .int x1), (4, .int x4), (5, .int x5)]) hc d_M_weather_95 (by decide) rfl ?_
    refine z_iinc (v := x4 + (iI 1)) (L' := [(4, .int (x4 + (iI 1))), (3, .int x5), (2, .int xs0), (0, .ref (gAd g (6, 0, 0))), (1, .int x1), (5, .int x5)]) hc d_M_weather_96 4 rfl rfl (by decide) rfl ?_
    refine z_goto (tgt := 23) hc d_M_weather_99 (by decide) ?_
    refine z_sub [3, 4, 2, 1, 0] (L' := [(0, .ref (gAd g (6, 0, 0))), (1, .int x1), (2, .int xs0), (3, .int x5), (4, .int (x4 + (iI 1)))]) rfl ?_
    exact hi (xs0, x5, x4 + (iI 1), σ) (Option.some.inj hf).symm
def b_M_weather_23 (x1 : Int32) (x2 : Int32) (x3 : Int32) (x4 : Int32) (σ : Sg) : Option ((Int32 × Int32 × Int32 × Sg) ⊕ (Int32 × Sg)) :=
  (if (iI 7) ≤ x4 then some (.inr (x2, σ)) else b2 (f_M_setsAside  σ) (fun v4 σ5 => Option.bind (rd ((iI 3) + x4) 66) (fun j7 => Option.bind (rd ((iI 3) + x4) 66) (fun j9 => b2 (f_M_goes x1 (upI σ5 20 0 0 j9 ((iI 1) - (σ5.1 20 0 0 j7)))) (fun v11 σ12 => b2 (f_M_sumOf (iI 3) σ12) (fun v14 σ15 => b2 (f_M_laysBack  σ15) (fun v17 σ18 => (if v14 ≤ x3 then j_M_weather_82 x1 x3 x4 v14 x2 σ18 else j_M_weather_82 x1 x3 x4 v14 x4 σ18))))))))
theorem sb_M_weather_23 {x : Cx} {g : Gv} {ρ : Option Value × Sg} (hc : Zc x g c_M_weather R_M 6 (some .int) 4) (x1 : Int32) (x2 : Int32) (x3 : Int32) (x4 : Int32) (σ : Sg) (r : (Int32 × Int32 × Int32 × Sg) ⊕ (Int32 × Sg)) (hf : b_M_weather_23 x1 x2 x3 x4 σ = some r) (hi : ∀ a', r = .inl a' → Z x g 6 ρ 23 [(0, .ref (gAd g (6, 0, 0))), (1, .int x1), (2, .int a'.1), (3, .int a'.2.1), (4, .int a'.2.2.1)] [] a'.2.2.2) (he0 : ∀ b, r = .inr b → Z x g 6 ρ 102 [(2, .int b.1)] [] b.2) : Z x g 6 ρ 23 [(0, .ref (gAd g (6, 0, 0))), (1, .int x1), (2, .int x2), (3, .int x3), (4, .int x4)] [] σ := by
  unfold b_M_weather_23 at hf
  refine z_iload hc d_M_weather_23 4 rfl ?_
  refine z_bipush (v := (iI 7)) hc d_M_weather_25 (by decide) ?_
  refine z_icmp_ge (tgt := 102) hc d_M_weather_27 (by decide) (fun hq => ?_) (fun hq => ?_)
  · have hf := ifp hq hf
    refine z_sub [2] (L' := [(2, .int x2)]) rfl ?_
    exact he0 (x2, σ) (Option.some.inj hf).symm
  · have hf := ifn hq hf
    refine z_aload_n hc d_M_weather_30 0 rfl ?_
    obtain ⟨v4, σ5, h6, hf⟩ := bd2 hf
    refine cz_M_126 hc d_M_weather_31 (by decide)  h6 (Nat.le_of_ble_eq_true rfl) ?_
    refine z_aload_n hc d_M_weather_34 0 rfl ?_
    refine gf_M_9 hc d_M_weather_35  ?_
    refine z_iconst (v := (iI 3)) hc d_M_weather_38 (by decide) ?_
    refine z_iload hc d_M_weather_39 4 rfl ?_
    refine z_iadd hc d_M_weather_41 ?_
    refine z_iconst (v := (iI 1)) hc d_M_weather_42 (by decide) ?_
    refine z_aload_n hc d_M_weather_43 0 rfl ?_
    refine gf_M_9 hc d_M_weather_44  ?_
    refine z_iconst (v := (iI 3)) hc d_M_weather_47 (by decide) ?_
    refine z_iload hc d_M_weather_48 4 rfl ?_
    refine z_iadd hc d_M_weather_50 ?_
    obtain ⟨j7, hj8, hf⟩ := bd hf
    refine ald_ms hc d_M_weather_51  hj8 ?_
    refine z_isub hc d_M_weather_52 ?_
    obtain ⟨j9, hj10, hf⟩ := bd hf
    refine ast_ms hc d_M_weather_53  hj10 ?_
    refine z_aload_n hc d_M_weather_54 0 rfl ?_
    refine z_iload_n hc d_M_weather_55 1 rfl ?_
    obtain ⟨v11, σ12, h13, hf⟩ := bd2 hf
    refine cz_M_123 hc d_M_weather_56 (by decide)  h13 (Nat.le_of_ble_eq_true rfl) ?_
    refine z_aload_n hc d_M_weather_59 0 rfl ?_
    refine z_iconst (v := (iI 3)) hc d_M_weather_60 (by decide) ?_
    obtain ⟨v14, σ15, h16, hf⟩ := bd2 hf
    refine cz_M_106 hc d_M_weather_61 (by decide)  h16 (Nat.le_of_ble_eq_true rfl) ?_
    refine z_istore (L' := [(5, .int v14), (0, .ref (gAd g (6, 0, 0))), (1, .int x1), (2, .int x2), (3, .int x3), (4, .int x4)]) hc d_M_weather_64 (by decide) rfl ?_
    refine z_aload_n hc d_M_weather_66 1 rfl ?_
    obtain ⟨v17, σ18, h19, hf⟩ := bd2 hf
    refine cz_M_129 hc d_M_weather_67 (by decide)  h19 (Nat.le_of_ble_eq_true rfl) ?_
    refine z_iload hc d_M_weather_70 0 rfl ?_
    refine z_iload_n hc d_M_weather_72 4 rfl ?_
    refine z_icmp_le (tgt := 81) hc d_M_weather_73 (by decide) (fun hq => ?_) (fun hq => ?_)
    · have hf := ifp hq hf
      refine z_iload_n hc d_M_weather_81 3 rfl ?_
      refine z_sub [1, 2, 4, 5, 0] (L' := [(0, .ref (gAd g (6, 0, 0))), (1, .int x1), (3, .int x3), (4, .int x4), (5, .int v14)]) rfl ?_
      exact sj_M_weather_82 hc x1 x3 x4 v14 x2   σ18 _ hf hi he0
    · have hf := ifn hq hf
      refine z_iload hc d_M_weather_76 5 rfl ?_
      refine z_goto (tgt := 82) hc d_M_weather_78 (by decide) ?_
      refine z_sub [1, 2, 4, 5, 0] (L' := [(0, .ref (gAd g (6, 0, 0))), (1, .int x1), (3, .int x3), (4, .int x4), (5, .int v14)]) rfl ?_
      exact sj_M_weather_82 hc x1 x3 x4 v14 x4   σ18 _ hf hi he0
def f_M_weather (x1 : Int32) (σ : Sg) : Option (Int32 × Sg) :=
  b2 (f_M_in1 x1 (iI 1) (iI 60) σ) (fun v1 σ2 => (if v1 = (iI 0) then b2 (f_M_no (iI 0) σ2) (fun v25 σ26 => some (v25, σ26)) else Option.bind (lp (fun a => b_M_weather_23 x1 a.1 a.2.1 a.2.2.1 a.2.2.2) FU ((iI 0), (iI (-1)), (iI 0), σ2)) (fun b23 => some (b23.1, b23.2))))
theorem ok_M_weather (g : Gv) (x1 : Int32) (σ : Sg) (r : Int32 × Sg) (hf : f_M_weather x1 σ = some r) : Ok g y_M_weather c_M_weather 6 (some .int) 4 [.ref (gAd g (6, 0, 0)), .int x1] σ (some (.int r.1), r.2) := by
  unfold f_M_weather at hf
  refine Ok.of [(0, .ref (gAd g (6, 0, 0))), (1, .int x1)] (by decide) (Nat.le_of_ble_eq_true rfl) rfl ?_
  intro x hc
  have hc : Zc x g c_M_weather R_M 6 (some .int) 4 := hc
  obtain ⟨ρ, hρ⟩ : ∃ ρ : Option Value × Sg, ρ = (some (.int r.1), r.2) := ⟨_, rfl⟩
  rw [← hρ]
  refine z_iload_n hc d_M_weather_0 1 rfl ?_
  refine z_iconst (v := (iI 1)) hc d_M_weather_1 (by decide) ?_
  refine z_bipush (v := (iI 60)) hc d_M_weather_2 (by decide) ?_
  obtain ⟨v1, σ2, h3, hf⟩ := bd2 hf
  refine cz_M_49 hc d_M_weather_4 (by decide)  h3 (Nat.le_of_ble_eq_true rfl) ?_
  refine z_if_ne (tgt := 16) hc d_M_weather_7 (by decide) (fun hq => ?_) (fun hq => ?_)
  · have hf := ifn hq hf
    refine z_iconst (v := (iI 0)) hc d_M_weather_16 (by decide) ?_
    refine z_istore_n (L' := [(2, .int (iI 0)), (0, .ref (gAd g (6, 0, 0))), (1, .int x1)]) hc d_M_weather_17 (by decide) rfl ?_
    refine z_iconst (v := (iI (-1))) hc d_M_weather_18 (by decide) ?_
    refine z_istore_n (L' := [(3, .int (iI (-1))), (2, .int (iI 0)), (0, .ref (gAd g (6, 0, 0))), (1, .int x1)]) hc d_M_weather_19 (by decide) rfl ?_
    refine z_iconst (v := (iI 0)) hc d_M_weather_20 (by decide) ?_
    refine z_istore (L' := [(4, .int (iI 0)), (3, .int (iI (-1))), (2, .int (iI 0)), (0, .ref (gAd g (6, 0, 0))), (1, .int x1)]) hc d_M_weather_21 (by decide) rfl ?_
    refine z_sub [3, 4, 2, 1, 0] (L' := [(0, .ref (gAd g (6, 0, 0))), (1, .int x1), (2, .int (iI 0)), (3, .int (iI (-1))), (4, .int (iI 0))]) rfl ?_
    obtain ⟨⟨y21, σ22⟩, hl24, hf⟩ := bd hf
    try dsimp only at hf
    refine lp_walk (α := (Int32 × Int32 × Int32 × Sg)) (β := (Int32 × Sg)) (body := (fun a : (Int32 × Int32 × Int32 × Sg) => b_M_weather_23 x1 a.1 a.2.1 a.2.2.1 a.2.2.2)) (In := (fun a : (Int32 × Int32 × Int32 × Sg) => Z x g 6 ρ 23 [(0, .ref (gAd g (6, 0, 0))), (1, .int x1), (2, .int a.1), (3, .int a.2.1), (4, .int a.2.2.1)] [] a.2.2.2)) (Out := (fun b => Z x g 6 ρ 102 [(2, .int b.1)] [] b.2)) (fun a r hb hi ho => sb_M_weather_23 hc x1  a.1 a.2.1 a.2.2.1 a.2.2.2 r hb hi (fun b e => ho _ e)) FU ((iI 0), (iI (-1)), (iI 0), σ2) _ hl24 ?_
    dsimp only
    refine z_iload_n hc d_M_weather_102 0 rfl ?_
    exact z_iret hc d_M_weather_103 (rI hf hρ)
  · have hf := ifp hq hf
    refine z_aload_n hc d_M_weather_10 0 rfl ?_
    refine z_iconst (v := (iI 0)) hc d_M_weather_11 (by decide) ?_
    obtain ⟨v25, σ26, h27, hf⟩ := bd2 hf
    refine cz_M_92 hc d_M_weather_12 (by decide)  h27 (Nat.le_of_ble_eq_true rfl) ?_
    exact z_iret hc d_M_weather_15 (rI hf hρ)
def j_M_hasWithout_38 (x1 : Int32) (x2 : Int32) (x3 : Int32) (xs0 : Int32) (xs1 : Int32) (xs2 : Int32) (σ : Sg) : Option ((Int32 × Sg) ⊕ (Sg)) :=
  b2 (f_M_puts xs2 xs1 xs0 σ) (fun v9 σ10 => some (.inl (x3 + (iI 1), σ10)))
theorem sj_M_hasWithout_38 {x : Cx} {g : Gv} {ρ : Option Value × Sg} (hc : Zc x g c_M_hasWithout R_M 4 (some .int) 7) (x1 : Int32) (x2 : Int32) (x3 : Int32) (xs0 : Int32) (xs1 : Int32) (xs2 : Int32) (σ : Sg) (r : (Int32 × Sg) ⊕ (Sg)) (hf : j_M_hasWithout_38 x1 x2 x3 xs0 xs1 xs2 σ = some r) (hi : ∀ a', r = .inl a' → Z x g 4 ρ 6 [(0, .ref (gAd g (6, 0, 0))), (1, .int x1), (2, .int x2), (3, .int a'.1)] [] a'.2) (he0 : ∀ b, r = .inr b → Z x g 4 ρ 47 [(0, .ref (gAd g (6, 0, 0))), (1, .int x1)] [] b) : Z x g 4 ρ 38 [(0, .ref (gAd g (6, 0, 0))), (1, .int x1), (2, .int x2), (3, .int x3)] [.int xs0, .int xs1, .int xs2, .ref (gAd g (6, 0, 0))] σ := by
  unfold j_M_hasWithout_38 at hf
  obtain ⟨v9, σ10, h11, hf⟩ := bd2 hf
  refine cz_M_78 hc d_M_hasWithout_38 (by decide)  h11 (Nat.le_of_ble_eq_true rfl) ?_
  refine z_iinc (v := x3 + (iI 1)) (L' := [(3, .int (x3 + (iI 1))), (0, .ref (gAd g (6, 0, 0))), (1, .int x1), (2, .int x2)]) hc d_M_hasWithout_41 3 rfl rfl (by decide) rfl ?_
  refine z_goto (tgt := 6) hc d_M_hasWithout_44 (by decide) ?_
  refine z_sub [1, 2, 3, 0] (L' := [(0, .ref (gAd g (6, 0, 0))), (1, .int x1), (2, .int x2), (3, .int (x3 + (iI 1)))]) rfl ?_
  exact hi (x3 + (iI 1), σ10) (Option.some.inj hf).symm
def b_M_hasWithout_6 (x1 : Int32) (x2 : Int32) (x3 : Int32) (σ : Sg) : Option ((Int32 × Sg) ⊕ (Sg)) :=
  Option.bind (rd (iI 2) 66) (fun j4 => (if (σ.1 20 0 0 j4) ≤ x3 then some (.inr σ) else (if ((x2 >>> (x3 &&& 31)) &&& (iI 1)) = (iI 1) then j_M_hasWithout_38 x1 x2 x3 (iI (-1)) (iI 5) x3 σ else b2 (f_M_get x3 (iI 5) σ) (fun v6 σ7 => j_M_hasWithout_38 x1 x2 x3 v6 (iI 5) x3 σ7))))
theorem sb_M_hasWithout_6 {x : Cx} {g : Gv} {ρ : Option Value × Sg} (hc : Zc x g c_M_hasWithout R_M 4 (some .int) 7) (x1 : Int32) (x2 : Int32) (x3 : Int32) (σ : Sg) (r : (Int32 × Sg) ⊕ (Sg)) (hf : b_M_hasWithout_6 x1 x2 x3 σ = some r) (hi : ∀ a', r = .inl a' → Z x g 4 ρ 6 [(0, .ref (gAd g (6, 0, 0))), (1, .int x1), (2, .int x2), (3, .int a'.1)] [] a'.2) (he0 : ∀ b, r = .inr b → Z x g 4 ρ 47 [(0, .ref (gAd g (6, 0, 0))), (1, .int x1)] [] b) : Z x g 4 ρ 6 [(0, .ref (gAd g (6, 0, 0))), (1, .int x1), (2, .int x2), (3, .int x3)] [] σ := by
  unfold b_M_hasWithout_6 at hf
  refine z_iload_n hc d_M_hasWithout_6 3 rfl ?_
  refine z_aload_n hc d_M_hasWithout_7 0 rfl ?_
  refine gf_M_9 hc d_M_hasWithout_8  ?_
  refine z_iconst (v := (iI 2)) hc d_M_hasWithout_11 (by decide) ?_
  obtain ⟨j4, hj5, hf⟩ := bd hf
  refine ald_ms hc d_M_hasWithout_12  hj5 ?_
  refine z_icmp_ge (tgt := 47) hc d_M_hasWithout_13 (by decide) (fun hq => ?_) (fun hq => ?_)
  · have hf := ifp hq hf
    refine z_sub [0, 1] (L' := [(0, .ref (gAd g (6, 0, 0))), (1, .int x1)]) rfl ?_
    exact he0 σ (Option.some.inj hf).symm
  · have hf := ifn hq hf
    refine z_aload_n hc d_M_hasWithout_16 0 rfl ?_
    refine z_iload_n hc d_M_hasWithout_17 3 rfl ?_
    refine z_iconst (v := (iI 5)) hc d_M_hasWithout_18 (by decide) ?_
    refine z_iload_n hc d_M_hasWithout_19 2 rfl ?_
    refine z_iload_n hc d_M_hasWithout_20 3 rfl ?_
    refine z_ishr hc d_M_hasWithout_21 ?_
    refine z_iconst (v := (iI 1)) hc d_M_hasWithout_22 (by decide) ?_
    refine z_iand hc d_M_hasWithout_23 ?_
    refine z_iconst (v := (iI 1)) hc d_M_hasWithout_24 (by decide) ?_
    refine z_icmp_ne (tgt := 32) hc d_M_hasWithout_25 (by decide) (fun hq => ?_) (fun hq => ?_)
    · have hf := ifn hq hf
      refine z_aload_n hc d_M_hasWithout_32 0 rfl ?_
      refine z_iload_n hc d_M_hasWithout_33 3 rfl ?_
      refine z_iconst (v := (iI 5)) hc d_M_hasWithout_34 (by decide) ?_
      obtain ⟨v6, σ7, h8, hf⟩ := bd2 hf
      refine cz_M_53 hc d_M_hasWithout_35 (by decide)  h8 (Nat.le_of_ble_eq_true rfl) ?_
      refine z_sub [0, 1, 2, 3] (L' := [(0, .ref (gAd g (6, 0, 0))), (1, .int x1), (2, .int x2), (3, .int x3)]) rfl ?_
      exact sj_M_hasWithout_38 hc x1 x2 x3 v6 (iI 5) x3   σ7 _ hf hi he0
    · have hf := ifp hq hf
      refine z_iconst (v := (iI (-1))) hc d_M_hasWithout_28 (by decide) ?_
      refine z_goto (tgt := 38) hc d_M_hasWithout_29 (by decide) ?_
      refine z_sub [0, 1, 2, 3] (L' := [(0, .ref (gAd g (6, 0, 0))), (1, .int x1), (2, .int x2), (3, .int x3)]) rfl ?_
      exact sj_M_hasWithout_38 hc x1 x2 x3 (iI (-1)) (iI 5) x3   σ _ hf hi he0
def f_M_hasWithout (x1 : Int32) (x2 : Int32) (σ : Sg) : Option (Int32 × Sg) :=
  b2 (f_M_setsAside  σ) (fun v1 σ2 => Option.bind (lp (fun a => b_M_hasWithout_6 x1 x2 a.1 a.2) FU ((iI 0), σ2)) (fun b17 => b2 (f_M_hasThen x1 (iI 0) b17) (fun v14 σ15 => some (v14, σ15))))
theorem ok_M_hasWithout (g : Gv) (x1 : Int32) (x2 : Int32) (σ : Sg) (r : Int32 × Sg) (hf : f_M_hasWithout x1 x2 σ = some r) : Ok g y_M_hasWithout c_M_hasWithout 4 (some .int) 7 [.ref (gAd g (6, 0, 0)), .int x1, .int x2] σ (some (.int r.1), r.2) := by
  unfold f_M_hasWithout at hf
  refine Ok.of [(0, .ref (gAd g (6, 0, 0))), (1, .int x1), (2, .int x2)] (by decide) (Nat.le_of_ble_eq_true rfl) rfl ?_
  intro x hc
  have hc : Zc x g c_M_hasWithout R_M 4 (some .int) 7 := hc
  obtain ⟨ρ, hρ⟩ : ∃ ρ : Option Value × Sg, ρ = (some (.int r.1), r.2) := ⟨_, rfl⟩
  rw [← hρ]
  refine z_aload_n hc d_M_hasWithout_0 0 rfl ?_
  obtain ⟨v1, σ2, h3, hf⟩ := bd2 hf
  refine cz_M_126 hc d_M_hasWithout_1 (by decide)  h3 (Nat.le_of_ble_eq_true rfl) ?_
  refine z_iconst (v := (iI 0)) hc d_M_hasWithout_4 (by decide) ?_
  refine z_istore_n (L' := [(3, .int (iI 0)), (0, .ref (gAd g (6, 0, 0))), (1, .int x1), (2, .int x2)]) hc d_M_hasWithout_5 (by decide) rfl ?_
  refine z_sub [1, 2, 3, 0] (L' := [(0, .ref (gAd g (6, 0, 0))), (1, .int x1), (2, .int x2), (3, .int (iI 0))]) rfl ?_
  obtain ⟨σ13, hl18, hf⟩ := bd hf
  try dsimp only at hf
  refine lp_walk (α := (Int32 × Sg)) (β := (Sg)) (body := (fun a : (Int32 × Sg) => b_M_hasWithout_6 x1 x2 a.1 a.2)) (In := (fun a : (Int32 × Sg) => Z x g 4 ρ 6 [(0, .ref (gAd g (6, 0, 0))), (1, .int x1), (2, .int x2), (3, .int a.1)] [] a.2)) (Out := (fun b => Z x g 4 ρ 47 [(0, .ref (gAd g (6, 0, 0))), (1, .int x1)] [] b)) (fun a r hb hi ho => sb_M_hasWithout_6 hc x1 x2  a.1 a.2 r hb hi (fun b e => ho _ e)) FU ((iI 0), σ2) _ hl18 ?_
  refine z_aload_n hc d_M_hasWithout_47 0 rfl ?_
  refine z_iload_n hc d_M_hasWithout_48 1 rfl ?_
  refine z_iconst (v := (iI 0)) hc d_M_hasWithout_49 (by decide) ?_
  obtain ⟨v14, σ15, h16, hf⟩ := bd2 hf
  refine cz_M_132 hc d_M_hasWithout_50 (by decide)  h16 (Nat.le_of_ble_eq_true rfl) ?_
  exact z_iret hc d_M_hasWithout_53 (rI hf hρ)
theorem vl_M_145 : VL R_M 145 y_M_hasWithout c_M_hasWithout 4 (some .int) 2 := ⟨tb5 162 (by decide +kernel) (by decide +kernel), tb5 164 (by decide +kernel) (by decide +kernel), tbp 34 (by decide +kernel), tb1 12 (by decide +kernel) (by decide +kernel), k_M_hasWithout, by decide, by decide, by decide +kernel, by decide⟩
theorem cz_M_145 {x : Cx} {g : Gv} {cc : ByteArray} {nL d pc : Nat} {ret : Option FieldType} {ρ : Option Value × Sg} {L : List (Nat × Value)} {st : List Value} {σ : Sg} (hc : Zc x g cc R_M nL ret d) (hd : decode cc pc = .ok (.invokevirtual 145, 3)) (hdd : 8 ≤ d) {x1 : Int32} {x2 : Int32} {v : Int32} {σ1 : Sg} (hf : f_M_hasWithout x1 x2 σ = some (v, σ1)) (hst : (st.map (fun v => v.category)).sum ≤ 8) (k : Z x g nL ρ (pc + 3) L (.int v :: st) σ1) : Z x g nL ρ pc L (.int x2 :: .int x1 :: .ref (gAd g (6, 0, 0)) :: st) σ := z_callV (ci := 11) (As := [.int x1, .int x2]) hc hd vl_M_145 hdd (6, 0, 0) (dm_M) rfl rfl (ok_M_hasWithout g x1 x2 σ (v, σ1) hf) rfl rfl hst rfl k
theorem vl_M_142 : SL R_M 142 y_M_bits c_M_bits 3 (some .int) 1 := ⟨tb5 159 (by decide +kernel) (by decide +kernel), tb5 160 (by decide +kernel) (by decide +kernel), tb1 12 (by decide +kernel) (by decide +kernel), k_M_bits, by decide, by decide, by decide +kernel, by decide⟩
theorem cz_M_142 {x : Cx} {g : Gv} {cc : ByteArray} {nL d pc : Nat} {ret : Option FieldType} {ρ : Option Value × Sg} {L : List (Nat × Value)} {st : List Value} {σ : Sg} (hc : Zc x g cc R_M nL ret d) (hd : decode cc pc = .ok (.invokestatic 142, 3)) (hdd : 1 ≤ d) {x0 : Int32} {v : Int32} {σ1 : Sg} (hf : f_M_bits x0 σ = some (v, σ1)) (hst : (st.map (fun v => v.category)).sum ≤ 8) (k : Z x g nL ρ (pc + 3) L (.int v :: st) σ1) : Z x g nL ρ pc L (.int x0 :: st) σ := z_callS (As := [.int x0]) hc hd vl_M_142 hdd (ok_M_bits g x0 σ (v, σ1) hf) rfl rfl hst rfl k
def j_M_fewest_19 (σ : Sg) : Option (Int32 × Sg) :=
  b2 (f_M_no (iI 0) σ) (fun v4 σ5 => some (v4, σ5))
theorem sj_M_fewest_19 {x : Cx} {g : Gv} {ρ : Option Value × Sg} (hc : Zc x g c_M_fewest R_M 7 (some .int) 8) (σ : Sg) (r : Int32 × Sg) (hf : j_M_fewest_19 σ = some r) (hρ : ρ = (some (.int r.1), r.2)) : Z x g 7 ρ 19 [(0, .ref (gAd g (6, 0, 0)))] [] σ := by
  unfold j_M_fewest_19 at hf
  refine z_aload_n hc d_M_fewest_19 0 rfl ?_
  refine z_iconst (v := (iI 0)) hc d_M_fewest_20 (by decide) ?_
  obtain ⟨v4, σ5, h6, hf⟩ := bd2 hf
  refine cz_M_92 hc d_M_fewest_21 (by decide)  h6 (Nat.le_of_ble_eq_true rfl) ?_
  exact z_iret hc d_M_fewest_24 (rI hf hρ)
def j_M_fewest_74 (x1 : Int32) (x2 : Int32) (x3 : Int32) (x4 : Int32) (x5 : Int32) (xs0 : Int32) (σ : Sg) : Option ((Int32 × Int32 × Sg) ⊕ (Int32 × Sg)) :=
  (if xs0 = (iI 0) then some (.inl (x3, x5 + (iI 1), σ)) else b2 (f_M_hasWithout x1 x5 σ) (fun v13 σ14 => (if v13 < x2 then some (.inl (x3, x5 + (iI 1), σ14)) else some (.inl (x5, x5 + (iI 1), σ14)))))
theorem sj_M_fewest_74 {x : Cx} {g : Gv} {ρ : Option Value × Sg} (hc : Zc x g c_M_fewest R_M 7 (some .int) 8) (x1 : Int32) (x2 : Int32) (x3 : Int32) (x4 : Int32) (x5 : Int32) (xs0 : Int32) (σ : Sg) (r : (Int32 × Int32 × Sg) ⊕ (Int32 × Sg)) (hf : j_M_fewest_74 x1 x2 x3 x4 x5 xs0 σ = some r) (hi : ∀ a', r = .inl a' → Z x g 7 ρ 36 [(0, .ref (gAd g (6, 0, 0))), (1, .int x1), (2, .int x2), (3, .int a'.1), (4, .int x4), (5, .int a'.2.1)] [] a'.2.2) (he0 : ∀ b, r = .inr b → Z x g 7 ρ 105 [(0, .ref (gAd g (6, 0, 0))), (3, .int b.1)] [] b.2) : Z x g 7 ρ 74 [(0, .ref (gAd g (6, 0, 0))), (1, .int x1), (2, .int x2), (3, .int x3), (4, .int x4), (5, .int x5)] [.int xs0] σ := by
  unfold j_M_fewest_74 at hf
  refine z_istore (L' := [(6, .int xs0), (0, .ref (gAd g (6, 0, 0))), (1, .int x1), (2, .int x2), (3, .int x3), (4, .int x4), (5, .int x5)]) hc d_M_fewest_74 (by decide) rfl ?_
  refine z_iload hc d_M_fewest_76 0 rfl ?_
  refine z_if_eq (tgt := 97) hc d_M_fewest_78 (by decide) (fun hq => ?_) (fun hq => ?_)
  · have hf := ifp hq hf
    refine z_iload_n hc d_M_fewest_97 4 rfl ?_
    refine z_istore_n (L' := [(3, .int x3), (6, .int xs0), (0, .ref (gAd g (6, 0, 0))), (1, .int x1), (2, .int x2), (4, .int x4), (5, .int x5)]) hc d_M_fewest_98 (by decide) rfl ?_
    refine z_iinc (v := x5 + (iI 1)) (L' := [(5, .int (x5 + (iI 1))), (3, .int x3), (6, .int xs0), (0, .ref (gAd g (6, 0, 0))), (1, .int x1), (2, .int x2), (4, .int x4)]) hc d_M_fewest_99 6 rfl rfl (by decide) rfl ?_
    refine z_goto (tgt := 36) hc d_M_fewest_102 (by decide) ?_
    refine z_sub [3, 4, 5, 1, 6, 0] (L' := [(0, .ref (gAd g (6, 0, 0))), (1, .int x1), (2, .int x2), (3, .int x3), (4, .int x4), (5, .int (x5 + (iI 1)))]) rfl ?_
    exact hi (x3, x5 + (iI 1), σ) (Option.some.inj hf).symm
  · have hf := ifn hq hf
    refine z_aload_n hc d_M_fewest_81 1 rfl ?_
    refine z_iload_n hc d_M_fewest_82 2 rfl ?_
    refine z_iload hc d_M_fewest_83 6 rfl ?_
    obtain ⟨v13, σ14, h15, hf⟩ := bd2 hf
    refine cz_M_145 hc d_M_fewest_85 (by decide)  h15 (Nat.le_of_ble_eq_true rfl) ?_
    refine z_iload_n hc d_M_fewest_88 3 rfl ?_
    refine z_icmp_lt (tgt := 97) hc d_M_fewest_89 (by decide) (fun hq => ?_) (fun hq => ?_)
    · have hf := ifp hq hf
      refine z_iload_n hc d_M_fewest_97 4 rfl ?_
      refine z_istore_n (L' := [(3, .int x3), (6, .int xs0), (0, .ref (gAd g (6, 0, 0))), (1, .int x1), (2, .int x2), (4, .int x4), (5, .int x5)]) hc d_M_fewest_98 (by decide) rfl ?_
      refine z_iinc (v := x5 + (iI 1)) (L' := [(5, .int (x5 + (iI 1))), (3, .int x3), (6, .int xs0), (0, .ref (gAd g (6, 0, 0))), (1, .int x1), (2, .int x2), (4, .int x4)]) hc d_M_fewest_99 6 rfl rfl (by decide) rfl ?_
      refine z_goto (tgt := 36) hc d_M_fewest_102 (by decide) ?_
      refine z_sub [3, 4, 5, 1, 6, 0] (L' := [(0, .ref (gAd g (6, 0, 0))), (1, .int x1), (2, .int x2), (3, .int x3), (4, .int x4), (5, .int (x5 + (iI 1)))]) rfl ?_
      exact hi (x3, x5 + (iI 1), σ14) (Option.some.inj hf).symm
    · have hf := ifn hq hf
      refine z_iload hc d_M_fewest_92 6 rfl ?_
      refine z_goto (tgt := 98) hc d_M_fewest_94 (by decide) ?_
      refine z_istore_n (L' := [(3, .int x5), (6, .int xs0), (0, .ref (gAd g (6, 0, 0))), (1, .int x1), (2, .int x2), (4, .int x4), (5, .int x5)]) hc d_M_fewest_98 (by decide) rfl ?_
      refine z_iinc (v := x5 + (iI 1)) (L' := [(5, .int (x5 + (iI 1))), (3, .int x5), (6, .int xs0), (0, .ref (gAd g (6, 0, 0))), (1, .int x1), (2, .int x2), (4, .int x4)]) hc d_M_fewest_99 6 rfl rfl (by decide) rfl ?_
      refine z_goto (tgt := 36) hc d_M_fewest_102 (by decide) ?_
      refine z_sub [3, 4, 5, 1, 6, 0] (L' := [(0, .ref (gAd g (6, 0, 0))), (1, .int x1), (2, .int x2), (3, .int x5), (4, .int x4), (5, .int (x5 + (iI 1)))]) rfl ?_
      exact hi (x5, x5 + (iI 1), σ14) (Option.some.inj hf).symm
def b_M_fewest_36 (x1 : Int32) (x2 : Int32) (x4 : Int32) (x3 : Int32) (x5 : Int32) (σ : Sg) : Option ((Int32 × Int32 × Sg) ⊕ (Int32 × Sg)) :=
  (if x4 < x5 then some (.inr (x3, σ)) else (if (x5 &&& (x4 ^^^ (iI (-1)))) = (iI 0) then (if x3 < (iI 0) then j_M_fewest_74 x1 x2 x3 x4 x5 (iI 1) σ else b2 (f_M_bits x5 σ) (fun v16 σ17 => b2 (f_M_bits x3 σ17) (fun v19 σ20 => (if v19 ≤ v16 then j_M_fewest_74 x1 x2 x3 x4 x5 (iI 0) σ20 else j_M_fewest_74 x1 x2 x3 x4 x5 (iI 1) σ20)))) else j_M_fewest_74 x1 x2 x3 x4 x5 (iI 0) σ))
theorem sb_M_fewest_36 {x : Cx} {g : Gv} {ρ : Option Value × Sg} (hc : Zc x g c_M_fewest R_M 7 (some .int) 8) (x1 : Int32) (x2 : Int32) (x4 : Int32) (x3 : Int32) (x5 : Int32) (σ : Sg) (r : (Int32 × Int32 × Sg) ⊕ (Int32 × Sg)) (hf : b_M_fewest_36 x1 x2 x4 x3 x5 σ = some r) (hi : ∀ a', r = .inl a' → Z x g 7 ρ 36 [(0, .ref (gAd g (6, 0, 0))), (1, .int x1), (2, .int x2), (3, .int a'.1), (4, .int x4), (5, .int a'.2.1)] [] a'.2.2) (he0 : ∀ b, r = .inr b → Z x g 7 ρ 105 [(0, .ref (gAd g (6, 0, 0))), (3, .int b.1)] [] b.2) : Z x g 7 ρ 36 [(0, .ref (gAd g (6, 0, 0))), (1, .int x1), (2, .int x2), (3, .int x3), (4, .int x4), (5, .int x5)] [] σ := by
  unfold b_M_fewest_36 at hf
  refine z_iload hc d_M_fewest_36 5 rfl ?_
  refine z_iload hc d_M_fewest_38 4 rfl ?_
  refine z_icmp_gt (tgt := 105) hc d_M_fewest_40 (by decide) (fun hq => ?_) (fun hq => ?_)
  · have hf := ifp hq hf
    refine z_sub [0, 3] (L' := [(0, .ref (gAd g (6, 0, 0))), (3, .int x3)]) rfl ?_
    exact he0 (x3, σ) (Option.some.inj hf).symm
  · have hf := ifn hq hf
    refine z_iload hc d_M_fewest_43 5 rfl ?_
    refine z_iload hc d_M_fewest_45 4 rfl ?_
    refine z_iconst (v := (iI (-1))) hc d_M_fewest_47 (by decide) ?_
    refine z_ixor hc d_M_fewest_48 ?_
    refine z_iand hc d_M_fewest_49 ?_
    refine z_if_ne (tgt := 73) hc d_M_fewest_50 (by decide) (fun hq => ?_) (fun hq => ?_)
    · have hf := ifn hq hf
      refine z_iconst (v := (iI 0)) hc d_M_fewest_73 (by decide) ?_
      refine z_sub [0, 1, 2, 3, 4, 5] (L' := [(0, .ref (gAd g (6, 0, 0))), (1, .int x1), (2, .int x2), (3, .int x3), (4, .int x4), (5, .int x5)]) rfl ?_
      exact sj_M_fewest_74 hc x1 x2 x3 x4 x5 (iI 0)   σ _ hf hi he0
    · have hf := ifp hq hf
      refine z_iload_n hc d_M_fewest_53 3 rfl ?_
      refine z_if_lt (tgt := 69) hc d_M_fewest_54 (by decide) (fun hq => ?_) (fun hq => ?_)
      · have hf := ifp hq hf
        refine z_iconst (v := (iI 1)) hc d_M_fewest_69 (by decide) ?_
        refine z_goto (tgt := 74) hc d_M_fewest_70 (by decide) ?_
        refine z_sub [0, 1, 2, 3, 4, 5] (L' := [(0, .ref (gAd g (6, 0, 0))), (1, .int x1), (2, .int x2), (3, .int x3), (4, .int x4), (5, .int x5)]) rfl ?_
        exact sj_M_fewest_74 hc x1 x2 x3 x4 x5 (iI 1)   σ _ hf hi he0
      · have hf := ifn hq hf
        refine z_iload hc d_M_fewest_57 5 rfl ?_
        obtain ⟨v16, σ17, h18, hf⟩ := bd2 hf
        refine cz_M_142 hc d_M_fewest_59 (by decide)  h18 (Nat.le_of_ble_eq_true rfl) ?_
        refine z_iload_n hc d_M_fewest_62 3 rfl ?_
        obtain ⟨v19, σ20, h21, hf⟩ := bd2 hf
        refine cz_M_142 hc d_M_fewest_63 (by decide)  h21 (Nat.le_of_ble_eq_true rfl) ?_
        refine z_icmp_ge (tgt := 73) hc d_M_fewest_66 (by decide) (fun hq => ?_) (fun hq => ?_)
        · have hf := ifp hq hf
          refine z_iconst (v := (iI 0)) hc d_M_fewest_73 (by decide) ?_
          refine z_sub [0, 1, 2, 3, 4, 5] (L' := [(0, .ref (gAd g (6, 0, 0))), (1, .int x1), (2, .int x2), (3, .int x3), (4, .int x4), (5, .int x5)]) rfl ?_
          exact sj_M_fewest_74 hc x1 x2 x3 x4 x5 (iI 0)   σ20 _ hf hi he0
        · have hf := ifn hq hf
          refine z_iconst (v := (iI 1)) hc d_M_fewest_69 (by decide) ?_
          refine z_goto (tgt := 74) hc d_M_fewest_70 (by decide) ?_
          refine z_sub [0, 1, 2, 3, 4, 5] (L' := [(0, .ref (gAd g (6, 0, 0))), (1, .int x1), (2, .int x2), (3, .int x3), (4, .int x4), (5, .int x5)]) rfl ?_
          exact sj_M_fewest_74 hc x1 x2 x3 x4 x5 (iI 1)   σ20 _ hf hi he0
def f_M_fewest (x1 : Int32) (x2 : Int32) (σ : Sg) : Option (Int32 × Sg) :=
  b2 (f_M_in1 x1 (iI 0) (iI 3) σ) (fun v1 σ2 => (if v1 = (iI 0) then j_M_fewest_19   σ2 else b2 (f_M_in1 x2 (iI 0) (iI 40) σ2) (fun v7 σ8 => (if v7 = (iI 0) then j_M_fewest_19   σ8 else b2 (f_M_rolledOut  σ8) (fun v10 σ11 => Option.bind (lp (fun a => b_M_fewest_36 x1 x2 v10 a.1 a.2.1 a.2.2) FU ((iI (-1)), (iI 0), σ11)) (fun b28 => (if (iI 0) ≤ b28.1 then some (b28.1, b28.2) else b2 (f_M_no (iI 3) b28.2) (fun v25 σ26 => some (v25, σ26)))))))))
theorem ok_M_fewest (g : Gv) (x1 : Int32) (x2 : Int32) (σ : Sg) (r : Int32 × Sg) (hf : f_M_fewest x1 x2 σ = some r) : Ok g y_M_fewest c_M_fewest 7 (some .int) 8 [.ref (gAd g (6, 0, 0)), .int x1, .int x2] σ (some (.int r.1), r.2) := by
  unfold f_M_fewest at hf
  refine Ok.of [(0, .ref (gAd g (6, 0, 0))), (1, .int x1), (2, .int x2)] (by decide) (Nat.le_of_ble_eq_true rfl) rfl ?_
  intro x hc
  have hc : Zc x g c_M_fewest R_M 7 (some .int) 8 := hc
  obtain ⟨ρ, hρ⟩ : ∃ ρ : Option Value × Sg, ρ = (some (.int r.1), r.2) := ⟨_, rfl⟩
  rw [← hρ]
  refine z_iload_n hc d_M_fewest_0 1 rfl ?_
  refine z_iconst (v := (iI 0)) hc d_M_fewest_1 (by decide) ?_
  refine z_iconst (v := (iI 3)) hc d_M_fewest_2 (by decide) ?_
  obtain ⟨v1, σ2, h3, hf⟩ := bd2 hf
  refine cz_M_49 hc d_M_fewest_3 (by decide)  h3 (Nat.le_of_ble_eq_true rfl) ?_
  refine z_if_eq (tgt := 19) hc d_M_fewest_6 (by decide) (fun hq => ?_) (fun hq => ?_)
  · have hf := ifp hq hf
    refine z_sub [0] (L' := [(0, .ref (gAd g (6, 0, 0)))]) rfl ?_
    exact sj_M_fewest_19 hc     σ2 _ hf hρ
  · have hf := ifn hq hf
    refine z_iload_n hc d_M_fewest_9 2 rfl ?_
    refine z_iconst (v := (iI 0)) hc d_M_fewest_10 (by decide) ?_
    refine z_bipush (v := (iI 40)) hc d_M_fewest_11 (by decide) ?_
    obtain ⟨v7, σ8, h9, hf⟩ := bd2 hf
    refine cz_M_49 hc d_M_fewest_13 (by decide)  h9 (Nat.le_of_ble_eq_true rfl) ?_
    refine z_if_ne (tgt := 25) hc d_M_fewest_16 (by decide) (fun hq => ?_) (fun hq => ?_)
    · have hf := ifn hq hf
      refine z_iconst (v := (iI (-1))) hc d_M_fewest_25 (by decide) ?_
      refine z_istore_n (L' := [(3, .int (iI (-1))), (0, .ref (gAd g (6, 0, 0))), (1, .int x1), (2, .int x2)]) hc d_M_fewest_26 (by decide) rfl ?_
      refine z_aload_n hc d_M_fewest_27 1 rfl ?_
      obtain ⟨v10, σ11, h12, hf⟩ := bd2 hf
      refine cz_M_102 hc d_M_fewest_28 (by decide)  h12 (Nat.le_of_ble_eq_true rfl) ?_
      refine z_istore (L' := [(4, .int v10), (3, .int (iI (-1))), (0, .ref (gAd g (6, 0, 0))), (1, .int x1), (2, .int x2)]) hc d_M_fewest_31 (by decide) rfl ?_
      refine z_iconst (v := (iI 0)) hc d_M_fewest_33 (by decide) ?_
      refine z_istore (L' := [(5, .int (iI 0)), (4, .int v10), (3, .int (iI (-1))), (0, .ref (gAd g (6, 0, 0))), (1, .int x1), (2, .int x2)]) hc d_M_fewest_34 (by decide) rfl ?_
      refine z_sub [3, 4, 5, 2, 1, 0] (L' := [(0, .ref (gAd g (6, 0, 0))), (1, .int x1), (2, .int x2), (3, .int (iI (-1))), (4, .int v10), (5, .int (iI 0))]) rfl ?_
      obtain ⟨⟨y23, σ24⟩, hl29, hf⟩ := bd hf
      try dsimp only at hf
      refine lp_walk (α := (Int32 × Int32 × Sg)) (β := (Int32 × Sg)) (body := (fun a : (Int32 × Int32 × Sg) => b_M_fewest_36 x1 x2 v10 a.1 a.2.1 a.2.2)) (In := (fun a : (Int32 × Int32 × Sg) => Z x g 7 ρ 36 [(0, .ref (gAd g (6, 0, 0))), (1, .int x1), (2, .int x2), (3, .int a.1), (4, .int v10), (5, .int a.2.1)] [] a.2.2)) (Out := (fun b => Z x g 7 ρ 105 [(0, .ref (gAd g (6, 0, 0))), (3, .int b.1)] [] b.2)) (fun a r hb hi ho => sb_M_fewest_36 hc x1 x2 v10  a.1 a.2.1 a.2.2 r hb hi (fun b e => ho _ e)) FU ((iI (-1)), (iI 0), σ11) _ hl29 ?_
      dsimp only
      refine z_iload_n hc d_M_fewest_105 1 rfl ?_
      refine z_if_ge (tgt := 117) hc d_M_fewest_106 (by decide) (fun hq => ?_) (fun hq => ?_)
      · have hf := ifp hq hf
        refine z_iload_n hc d_M_fewest_117 1 rfl ?_
        exact z_iret hc d_M_fewest_118 (rI hf hρ)
      · have hf := ifn hq hf
        refine z_aload_n hc d_M_fewest_109 0 rfl ?_
        refine z_iconst (v := (iI 3)) hc d_M_fewest_110 (by decide) ?_
        obtain ⟨v25, σ26, h27, hf⟩ := bd2 hf
        refine cz_M_92 hc d_M_fewest_111 (by decide)  h27 (Nat.le_of_ble_eq_true rfl) ?_
        refine z_goto (tgt := 118) hc d_M_fewest_114 (by decide) ?_
        exact z_iret hc d_M_fewest_118 (rI hf hρ)
    · have hf := ifp hq hf
      refine z_sub [0] (L' := [(0, .ref (gAd g (6, 0, 0)))]) rfl ?_
      exact sj_M_fewest_19 hc     σ8 _ hf hρ
def b_M_feed_36 (x1 : Int32) (x3 : Int32) (σ : Sg) : Option ((Int32 × Sg) ⊕ (Sg)) :=
  (if x3 < (iI 0) then some (.inr σ) else Option.bind (rd (σ.1 6 0 0 1) 120) (fun j4 => some (.inl (x3 + (iI (-1)), upI (upI σ 24 0 0 j4 ((x1 >>> (((iI 8) * x3) &&& 31)) &&& (iI 255))) 6 0 0 1 (((upI σ 24 0 0 j4 ((x1 >>> (((iI 8) * x3) &&& 31)) &&& (iI 255))).1 6 0 0 1) + (iI 1))))))
theorem sb_M_feed_36 {x : Cx} {g : Gv} {ρ : Option Value × Sg} (hc : Zc x g c_M_feed R_M 4 (some .int) 1) (x1 : Int32) (x3 : Int32) (σ : Sg) (r : (Int32 × Sg) ⊕ (Sg)) (hf : b_M_feed_36 x1 x3 σ = some r) (hi : ∀ a', r = .inl a' → Z x g 4 ρ 36 [(0, .ref (gAd g (6, 0, 0))), (1, .int x1), (3, .int a'.1)] [] a'.2) (he0 : ∀ b, r = .inr b → Z x g 4 ρ 75 [(0, .ref (gAd g (6, 0, 0)))] [] b) : Z x g 4 ρ 36 [(0, .ref (gAd g (6, 0, 0))), (1, .int x1), (3, .int x3)] [] σ := by
  unfold b_M_feed_36 at hf
  refine z_iload_n hc d_M_feed_36 2 rfl ?_
  refine z_if_lt (tgt := 75) hc d_M_feed_37 (by decide) (fun hq => ?_) (fun hq => ?_)
  · have hf := ifp hq hf
    refine z_sub [0] (L' := [(0, .ref (gAd g (6, 0, 0)))]) rfl ?_
    exact he0 σ (Option.some.inj hf).symm
  · have hf := ifn hq hf
    refine z_aload_n hc d_M_feed_40 0 rfl ?_
    refine gf_M_22 hc d_M_feed_41  ?_
    refine z_aload_n hc d_M_feed_44 0 rfl ?_
    refine gf_M_148 hc d_M_feed_45  ?_
    refine z_iload_n hc d_M_feed_48 1 rfl ?_
    refine z_bipush (v := (iI 8)) hc d_M_feed_49 (by decide) ?_
    refine z_iload_n hc d_M_feed_51 2 rfl ?_
    refine z_imul hc d_M_feed_52 ?_
    refine z_ishr hc d_M_feed_53 ?_
    refine z_sipush (v := (iI 255)) hc d_M_feed_54 (by decide) ?_
    refine z_iand hc d_M_feed_57 ?_
    obtain ⟨j4, hj5, hf⟩ := bd hf
    refine ast_mtape hc d_M_feed_58  hj5 ?_
    refine z_aload_n hc d_M_feed_59 0 rfl ?_
    refine z_dup hc d_M_feed_60 rfl ?_
    refine gf_M_148 hc d_M_feed_61  ?_
    refine z_iconst (v := (iI 1)) hc d_M_feed_64 (by decide) ?_
    refine z_iadd hc d_M_feed_65 ?_
    refine pf_M_148 hc d_M_feed_66  ?_
    refine z_iinc (v := x3 + (iI (-1))) (L' := [(3, .int (x3 + (iI (-1)))), (0, .ref (gAd g (6, 0, 0))), (1, .int x1)]) hc d_M_feed_69 2 rfl rfl (by decide) rfl ?_
    refine z_goto (tgt := 36) hc d_M_feed_72 (by decide) ?_
    refine z_sub [1, 2, 0] (L' := [(0, .ref (gAd g (6, 0, 0))), (1, .int x1), (3, .int (x3 + (iI (-1))))]) rfl ?_
    exact hi (x3 + (iI (-1)), upI (upI σ 24 0 0 j4 ((x1 >>> (((iI 8) * x3) &&& 31)) &&& (iI 255))) 6 0 0 1 (((upI σ 24 0 0 j4 ((x1 >>> (((iI 8) * x3) &&& 31)) &&& (iI 255))).1 6 0 0 1) + (iI 1))) (Option.some.inj hf).symm
def f_M_feed (x1 : Int32) (x2 : Int32) (σ : Sg) : Option (Int32 × Sg) :=
  b2 (f_M_in1 x2 (iI 1) (iI 4) σ) (fun v1 σ2 => (if v1 = (iI 0) then b2 (f_M_no (iI 0) σ2) (fun v13 σ14 => some (v13, σ14)) else (if ((σ2.1 6 0 0 1) + x2) ≤ (iI 120) then Option.bind (lp (fun a => b_M_feed_36 x1 a.1 a.2) FU (x2 - (iI 1), σ2)) (fun b8 => some (b8.1 6 0 0 1, b8)) else b2 (f_M_no (iI 1) σ2) (fun v10 σ11 => some (v10, σ11)))))
theorem ok_M_feed (g : Gv) (x1 : Int32) (x2 : Int32) (σ : Sg) (r : Int32 × Sg) (hf : f_M_feed x1 x2 σ = some r) : Ok g y_M_feed c_M_feed 4 (some .int) 1 [.ref (gAd g (6, 0, 0)), .int x1, .int x2] σ (some (.int r.1), r.2) := by
  unfold f_M_feed at hf
  refine Ok.of [(0, .ref (gAd g (6, 0, 0))), (1, .int x1), (2, .int x2)] (by decide) (Nat.le_of_ble_eq_true rfl) rfl ?_
  intro x hc
  have hc : Zc x g c_M_feed R_M 4 (some .int) 1 := hc
  obtain ⟨ρ, hρ⟩ : ∃ ρ : Option Value × Sg, ρ = (some (.int r.1), r.2) := ⟨_, rfl⟩
  rw [← hρ]
  refine z_iload_n hc d_M_feed_0 2 rfl ?_
  refine z_iconst (v := (iI 1)) hc d_M_feed_1 (by decide) ?_
  refine z_iconst (v := (iI 4)) hc d_M_feed_2 (by decide) ?_
  obtain ⟨v1, σ2, h3, hf⟩ := bd2 hf
  refine cz_M_49 hc d_M_feed_3 (by decide)  h3 (Nat.le_of_ble_eq_true rfl) ?_
  refine z_if_ne (tgt := 15) hc d_M_feed_6 (by decide) (fun hq => ?_) (fun hq => ?_)
  · have hf := ifn hq hf
    refine z_aload_n hc d_M_feed_15 0 rfl ?_
    refine gf_M_148 hc d_M_feed_16  ?_
    refine z_iload_n hc d_M_feed_19 2 rfl ?_
    refine z_iadd hc d_M_feed_20 ?_
    refine z_bipush (v := (iI 120)) hc d_M_feed_21 (by decide) ?_
    refine z_icmp_le (tgt := 32) hc d_M_feed_23 (by decide) (fun hq => ?_) (fun hq => ?_)
    · have hf := ifp hq hf
      refine z_iload_n hc d_M_feed_32 2 rfl ?_
      refine z_iconst (v := (iI 1)) hc d_M_feed_33 (by decide) ?_
      refine z_isub hc d_M_feed_34 ?_
      refine z_istore_n (L' := [(3, .int (x2 - (iI 1))), (0, .ref (gAd g (6, 0, 0))), (1, .int x1), (2, .int x2)]) hc d_M_feed_35 (by decide) rfl ?_
      refine z_sub [1, 2, 0] (L' := [(0, .ref (gAd g (6, 0, 0))), (1, .int x1), (3, .int (x2 - (iI 1)))]) rfl ?_
      obtain ⟨σ7, hl9, hf⟩ := bd hf
      try dsimp only at hf
      refine lp_walk (α := (Int32 × Sg)) (β := (Sg)) (body := (fun a : (Int32 × Sg) => b_M_feed_36 x1 a.1 a.2)) (In := (fun a : (Int32 × Sg) => Z x g 4 ρ 36 [(0, .ref (gAd g (6, 0, 0))), (1, .int x1), (3, .int a.1)] [] a.2)) (Out := (fun b => Z x g 4 ρ 75 [(0, .ref (gAd g (6, 0, 0)))] [] b)) (fun a r hb hi ho => sb_M_feed_36 hc x1  a.1 a.2 r hb hi (fun b e => ho _ e)) FU (x2 - (iI 1), σ2) _ hl9 ?_
      refine z_aload_n hc d_M_feed_75 0 rfl ?_
      refine gf_M_148 hc d_M_feed_76  ?_
      exact z_iret hc d_M_feed_79 (rI hf hρ)
    · have hf := ifn hq hf
      refine z_aload_n hc d_M_feed_26 0 rfl ?_
      refine z_iconst (v := (iI 1)) hc d_M_feed_27 (by decide) ?_
      obtain ⟨v10, σ11, h12, hf⟩ := bd2 hf
      refine cz_M_92 hc d_M_feed_28 (by decide)  h12 (Nat.le_of_ble_eq_true rfl) ?_
      exact z_iret hc d_M_feed_31 (rI hf hρ)
  · have hf := ifp hq hf
    refine z_aload_n hc d_M_feed_9 0 rfl ?_
    refine z_iconst (v := (iI 0)) hc d_M_feed_10 (by decide) ?_
    obtain ⟨v13, σ14, h15, hf⟩ := bd2 hf
    refine cz_M_92 hc d_M_feed_11 (by decide)  h15 (Nat.le_of_ble_eq_true rfl) ?_
    exact z_iret hc d_M_feed_14 (rI hf hρ)
def f_M_wipe (σ : Sg) : Option (Int32 × Sg) :=
  some (σ.1 6 0 0 1, upI σ 6 0 0 1 (iI 0))
theorem ok_M_wipe (g : Gv) (σ : Sg) (r : Int32 × Sg) (hf : f_M_wipe σ = some r) : Ok g y_M_wipe c_M_wipe 2 (some .int) 0 [.ref (gAd g (6, 0, 0))] σ (some (.int r.1), r.2) := by
  unfold f_M_wipe at hf
  refine Ok.of [(0, .ref (gAd g (6, 0, 0)))] (by decide) (Nat.le_of_ble_eq_true rfl) rfl ?_
  intro x hc
  have hc : Zc x g c_M_wipe R_M 2 (some .int) 0 := hc
  obtain ⟨ρ, hρ⟩ : ∃ ρ : Option Value × Sg, ρ = (some (.int r.1), r.2) := ⟨_, rfl⟩
  rw [← hρ]
  refine z_aload_n hc d_M_wipe_0 0 rfl ?_
  refine gf_M_148 hc d_M_wipe_1  ?_
  refine z_istore_n (L' := [(1, .int (σ.1 6 0 0 1)), (0, .ref (gAd g (6, 0, 0)))]) hc d_M_wipe_4 (by decide) rfl ?_
  refine z_aload_n hc d_M_wipe_5 1 rfl ?_
  refine z_iconst (v := (iI 0)) hc d_M_wipe_6 (by decide) ?_
  refine pf_M_148 hc d_M_wipe_7  ?_
  refine z_iload_n hc d_M_wipe_10 0 rfl ?_
  exact z_iret hc d_M_wipe_11 (rI hf hρ)
def f_M_isLetter (x0 : Int32) (σ : Sg) : Option (Int32 × Sg) :=
  b2 (f_M_in1 x0 (iI 97) (iI 122) σ) (fun v1 σ2 => Option.bind (bo v1) (fun r4 => some (r4, σ2)))
theorem ok_M_isLetter (g : Gv) (x0 : Int32) (σ : Sg) (r : Int32 × Sg) (hf : f_M_isLetter x0 σ = some r) : Ok g y_M_isLetter c_M_isLetter 1 (some .boolean) 1 [.int x0] σ (some (.int r.1), r.2) := by
  unfold f_M_isLetter at hf
  refine Ok.of [(0, .int x0)] (by decide) (Nat.le_of_ble_eq_true rfl) rfl ?_
  intro x hc
  have hc : Zc x g c_M_isLetter R_M 1 (some .boolean) 1 := hc
  obtain ⟨ρ, hρ⟩ : ∃ ρ : Option Value × Sg, ρ = (some (.int r.1), r.2) := ⟨_, rfl⟩
  rw [← hρ]
  refine z_iload_n hc d_M_isLetter_0 0 rfl ?_
  refine z_bipush (v := (iI 97)) hc d_M_isLetter_1 (by decide) ?_
  refine z_bipush (v := (iI 122)) hc d_M_isLetter_3 (by decide) ?_
  obtain ⟨v1, σ2, h3, hf⟩ := bd2 hf
  refine cz_M_49 hc d_M_isLetter_5 (by decide)  h3 (Nat.le_of_ble_eq_true rfl) ?_
  obtain ⟨r4, hb1, hf⟩ := bd hf
  exact z_bret hc d_M_isLetter_8 hb1 hf hρ
def f_M_isDigit (x0 : Int32) (σ : Sg) : Option (Int32 × Sg) :=
  b2 (f_M_in1 x0 (iI 48) (iI 57) σ) (fun v1 σ2 => Option.bind (bo v1) (fun r4 => some (r4, σ2)))
theorem ok_M_isDigit (g : Gv) (x0 : Int32) (σ : Sg) (r : Int32 × Sg) (hf : f_M_isDigit x0 σ = some r) : Ok g y_M_isDigit c_M_isDigit 1 (some .boolean) 1 [.int x0] σ (some (.int r.1), r.2) := by
  unfold f_M_isDigit at hf
  refine Ok.of [(0, .int x0)] (by decide) (Nat.le_of_ble_eq_true rfl) rfl ?_
  intro x hc
  have hc : Zc x g c_M_isDigit R_M 1 (some .boolean) 1 := hc
  obtain ⟨ρ, hρ⟩ : ∃ ρ : Option Value × Sg, ρ = (some (.int r.1), r.2) := ⟨_, rfl⟩
  rw [← hρ]
  refine z_iload_n hc d_M_isDigit_0 0 rfl ?_
  refine z_bipush (v := (iI 48)) hc d_M_isDigit_1 (by decide) ?_
  refine z_bipush (v := (iI 57)) hc d_M_isDigit_3 (by decide) ?_
  obtain ⟨v1, σ2, h3, hf⟩ := bd2 hf
  refine cz_M_49 hc d_M_isDigit_5 (by decide)  h3 (Nat.le_of_ble_eq_true rfl) ?_
  obtain ⟨r4, hb1, hf⟩ := bd hf
  exact z_bret hc d_M_isDigit_8 hb1 hf hρ
theorem vl_M_165 : SL R_M 165 y_M_isLetter c_M_isLetter 1 (some .boolean) 1 := ⟨tb5 182 (by decide +kernel) (by decide +kernel), tb5 183 (by decide +kernel) (by decide +kernel), tb1 12 (by decide +kernel) (by decide +kernel), k_M_isLetter, by decide, by decide, by decide +kernel, by decide⟩
theorem cz_M_165 {x : Cx} {g : Gv} {cc : ByteArray} {nL d pc : Nat} {ret : Option FieldType} {ρ : Option Value × Sg} {L : List (Nat × Value)} {st : List Value} {σ : Sg} (hc : Zc x g cc R_M nL ret d) (hd : decode cc pc = .ok (.invokestatic 165, 3)) (hdd : 2 ≤ d) {x0 : Int32} {v : Int32} {σ1 : Sg} (hf : f_M_isLetter x0 σ = some (v, σ1)) (hst : (st.map (fun v => v.category)).sum ≤ 8) (k : Z x g nL ρ (pc + 3) L (.int v :: st) σ1) : Z x g nL ρ pc L (.int x0 :: st) σ := z_callS (As := [.int x0]) hc hd vl_M_165 hdd (ok_M_isLetter g x0 σ (v, σ1) hf) rfl rfl hst rfl k
theorem vl_M_174 : SL R_M 174 y_M_isDigit c_M_isDigit 1 (some .boolean) 1 := ⟨tb5 188 (by decide +kernel) (by decide +kernel), tb5 189 (by decide +kernel) (by decide +kernel), tb1 12 (by decide +kernel) (by decide +kernel), k_M_isDigit, by decide, by decide, by decide +kernel, by decide⟩
theorem cz_M_174 {x : Cx} {g : Gv} {cc : ByteArray} {nL d pc : Nat} {ret : Option FieldType} {ρ : Option Value × Sg} {L : List (Nat × Value)} {st : List Value} {σ : Sg} (hc : Zc x g cc R_M nL ret d) (hd : decode cc pc = .ok (.invokestatic 174, 3)) (hdd : 2 ≤ d) {x0 : Int32} {v : Int32} {σ1 : Sg} (hf : f_M_isDigit x0 σ = some (v, σ1)) (hst : (st.map (fun v => v.category)).sum ≤ 8) (k : Z x g nL ρ (pc + 3) L (.int v :: st) σ1) : Z x g nL ρ pc L (.int x0 :: st) σ := z_callS (As := [.int x0]) hc hd vl_M_174 hdd (ok_M_isDigit g x0 σ (v, σ1) hf) rfl rfl hst rfl k
def b_M_nextToken_8 (σ : Sg) : Option ((Sg) ⊕ (Sg)) :=
  (if (σ.1 6 0 0 1) ≤ (σ.1 6 0 0 3) then some (.inr σ) else Option.bind (rd (σ.1 6 0 0 3) 120) (fun j1 => (if (σ.1 24 0 0 j1) = (iI 32) then some (.inl (upI σ 6 0 0 3 ((σ.1 6 0 0 3) + (iI 1)))) else some (.inr σ))))
theorem sb_M_nextToken_8 {x : Cx} {g : Gv} {ρ : Option Value × Sg} (hc : Zc x g c_M_nextToken R_M 1 none 2) (σ : Sg) (r : (Sg) ⊕ (Sg)) (hf : b_M_nextToken_8 σ = some r) (hi : ∀ a', r = .inl a' → Z x g 1 ρ 8 [(0, .ref (gAd g (6, 0, 0)))] [] a') (he0 : ∀ b, r = .inr b → Z x g 1 ρ 46 [(0, .ref (gAd g (6, 0, 0)))] [] b) : Z x g 1 ρ 8 [(0, .ref (gAd g (6, 0, 0)))] [] σ := by
  unfold b_M_nextToken_8 at hf
  refine z_aload_n hc d_M_nextToken_8 0 rfl ?_
  refine gf_M_155 hc d_M_nextToken_9  ?_
  refine z_aload_n hc d_M_nextToken_12 0 rfl ?_
  refine gf_M_148 hc d_M_nextToken_13  ?_
  refine z_icmp_ge (tgt := 46) hc d_M_nextToken_16 (by decide) (fun hq => ?_) (fun hq => ?_)
  · have hf := ifp hq hf
    refine z_sub [0] (L' := [(0, .ref (gAd g (6, 0, 0)))]) rfl ?_
    exact he0 σ (Option.some.inj hf).symm
  · have hf := ifn hq hf
    refine z_aload_n hc d_M_nextToken_19 0 rfl ?_
    refine gf_M_22 hc d_M_nextToken_20  ?_
    refine z_aload_n hc d_M_nextToken_23 0 rfl ?_
    refine gf_M_155 hc d_M_nextToken_24  ?_
    obtain ⟨j1, hj2, hf⟩ := bd hf
    refine ald_mtape hc d_M_nextToken_27  hj2 ?_
    refine z_bipush (v := (iI 32)) hc d_M_nextToken_28 (by decide) ?_
    refine z_icmp_ne (tgt := 46) hc d_M_nextToken_30 (by decide) (fun hq => ?_) (fun hq => ?_)
    · have hf := ifn hq hf
      refine z_sub [0] (L' := [(0, .ref (gAd g (6, 0, 0)))]) rfl ?_
      exact he0 σ (Option.some.inj hf).symm
    · have hf := ifp hq hf
      refine z_aload_n hc d_M_nextToken_33 0 rfl ?_
      refine z_dup hc d_M_nextToken_34 rfl ?_
      refine gf_M_155 hc d_M_nextToken_35  ?_
      refine z_iconst (v := (iI 1)) hc d_M_nextToken_38 (by decide) ?_
      refine z_iadd hc d_M_nextToken_39 ?_
      refine pf_M_155 hc d_M_nextToken_40  ?_
      refine z_goto (tgt := 8) hc d_M_nextToken_43 (by decide) ?_
      refine z_sub [0] (L' := [(0, .ref (gAd g (6, 0, 0)))]) rfl ?_
      exact hi (upI σ 6 0 0 3 ((σ.1 6 0 0 3) + (iI 1))) (Option.some.inj hf).symm
def j_M_nextToken_324 (xs0 : Int32) (σ : Sg) : Option (Unit × Sg) :=
  some ((), upI (upI σ 6 0 0 2 xs0) 6 0 0 4 (((upI σ 6 0 0 2 xs0).1 6 0 0 4) + (iI 1)))
theorem sj_M_nextToken_324 {x : Cx} {g : Gv} {ρ : Option Value × Sg} (hc : Zc x g c_M_nextToken R_M 1 none 2) (xs0 : Int32) (σ : Sg) (r : Unit × Sg) (hf : j_M_nextToken_324 xs0 σ = some r) (hρ : ρ = (none, r.2)) : Z x g 1 ρ 324 [(0, .ref (gAd g (6, 0, 0)))] [.int xs0, .ref (gAd g (6, 0, 0))] σ := by
  unfold j_M_nextToken_324 at hf
  refine pf_M_162 hc d_M_nextToken_324  ?_
  refine z_aload_n hc d_M_nextToken_327 0 rfl ?_
  refine z_dup hc d_M_nextToken_328 rfl ?_
  refine gf_M_152 hc d_M_nextToken_329  ?_
  refine z_iconst (v := (iI 1)) hc d_M_nextToken_332 (by decide) ?_
  refine z_iadd hc d_M_nextToken_333 ?_
  refine pf_M_152 hc d_M_nextToken_334  ?_
  exact z_vret hc d_M_nextToken_337 (rV hf hρ)
def j_M_nextToken_265 (xs0 : Int64) (σ : Sg) : Option ((Sg) ⊕ (Sg)) :=
  some (.inl (upI (upL σ 6 0 0 0 xs0) 6 0 0 4 (((upL σ 6 0 0 0 xs0).1 6 0 0 4) + (iI 1))))
theorem sj_M_nextToken_265 {x : Cx} {g : Gv} {ρ : Option Value × Sg} (hc : Zc x g c_M_nextToken R_M 1 none 2) (xs0 : Int64) (σ : Sg) (r : (Sg) ⊕ (Sg)) (hf : j_M_nextToken_265 xs0 σ = some r) (hi : ∀ a', r = .inl a' → Z x g 1 ρ 197 [(0, .ref (gAd g (6, 0, 0)))] [] a') (he0 : ∀ b, r = .inr b → Z x g 1 ρ 281 [(0, .ref (gAd g (6, 0, 0)))] [] b) : Z x g 1 ρ 265 [(0, .ref (gAd g (6, 0, 0)))] [.long xs0, .ref (gAd g (6, 0, 0))] σ := by
  unfold j_M_nextToken_265 at hf
  refine pf_M_158 hc d_M_nextToken_265  ?_
  refine z_aload_n hc d_M_nextToken_268 0 rfl ?_
  refine z_dup hc d_M_nextToken_269 rfl ?_
  refine gf_M_152 hc d_M_nextToken_270  ?_
  refine z_iconst (v := (iI 1)) hc d_M_nextToken_273 (by decide) ?_
  refine z_iadd hc d_M_nextToken_274 ?_
  refine pf_M_152 hc d_M_nextToken_275  ?_
  refine z_goto (tgt := 197) hc d_M_nextToken_278 (by decide) ?_
  refine z_sub [0] (L' := [(0, .ref (gAd g (6, 0, 0)))]) rfl ?_
  exact hi (upI (upL σ 6 0 0 0 xs0) 6 0 0 4 (((upL σ 6 0 0 0 xs0).1 6 0 0 4) + (iI 1))) (Option.some.inj hf).symm
def b_M_nextToken_197 (σ : Sg) : Option ((Sg) ⊕ (Sg)) :=
  (if (σ.1 6 0 0 1) ≤ (σ.1 6 0 0 4) then some (.inr σ) else Option.bind (rd (σ.1 6 0 0 4) 120) (fun j17 => b2 (f_M_isDigit (σ.1 24 0 0 j17) σ) (fun v19 σ20 => (if v19 = (iI 0) then some (.inr σ20) else (if (lg_cmp (σ20.2.1 6 0 0 0) (lI 999)) ≤ (iI 0) then Option.bind (rd (σ20.1 6 0 0 4) 120) (fun j22 => j_M_nextToken_265  ((((σ20.2.1 6 0 0 0) * (lI 10)) + ((σ20.1 24 0 0 j22 : Int32).toInt64)) - (lI 48)) σ20) else j_M_nextToken_265  (σ20.2.1 6 0 0 0) σ20)))))
theorem sb_M_nextToken_197 {x : Cx} {g : Gv} {ρ : Option Value × Sg} (hc : Zc x g c_M_nextToken R_M 1 none 2) (σ : Sg) (r : (Sg) ⊕ (Sg)) (hf : b_M_nextToken_197 σ = some r) (hi : ∀ a', r = .inl a' → Z x g 1 ρ 197 [(0, .ref (gAd g (6, 0, 0)))] [] a') (he0 : ∀ b, r = .inr b → Z x g 1 ρ 281 [(0, .ref (gAd g (6, 0, 0)))] [] b) : Z x g 1 ρ 197 [(0, .ref (gAd g (6, 0, 0)))] [] σ := by
  unfold b_M_nextToken_197 at hf
  refine z_aload_n hc d_M_nextToken_197 0 rfl ?_
  refine gf_M_152 hc d_M_nextToken_198  ?_
  refine z_aload_n hc d_M_nextToken_201 0 rfl ?_
  refine gf_M_148 hc d_M_nextToken_202  ?_
  refine z_icmp_ge (tgt := 281) hc d_M_nextToken_205 (by decide) (fun hq => ?_) (fun hq => ?_)
  · have hf := ifp hq hf
    refine z_sub [0] (L' := [(0, .ref (gAd g (6, 0, 0)))]) rfl ?_
    exact he0 σ (Option.some.inj hf).symm
  · have hf := ifn hq hf
    refine z_aload_n hc d_M_nextToken_208 0 rfl ?_
    refine gf_M_22 hc d_M_nextToken_209  ?_
    refine z_aload_n hc d_M_nextToken_212 0 rfl ?_
    refine gf_M_152 hc d_M_nextToken_213  ?_
    obtain ⟨j17, hj18, hf⟩ := bd hf
    refine ald_mtape hc d_M_nextToken_216  hj18 ?_
    obtain ⟨v19, σ20, h21, hf⟩ := bd2 hf
    refine cz_M_174 hc d_M_nextToken_217 (by decide)  h21 (Nat.le_of_ble_eq_true rfl) ?_
    refine z_if_eq (tgt := 281) hc d_M_nextToken_220 (by decide) (fun hq => ?_) (fun hq => ?_)
    · have hf := ifp hq hf
      refine z_sub [0] (L' := [(0, .ref (gAd g (6, 0, 0)))]) rfl ?_
      exact he0 σ20 (Option.some.inj hf).symm
    · have hf := ifn hq hf
      refine z_aload_n hc d_M_nextToken_223 0 rfl ?_
      refine z_aload_n hc d_M_nextToken_224 0 rfl ?_
      refine gf_M_158 hc d_M_nextToken_225  ?_
      refine z_ldc2 (v := (lI 999)) hc cl_M_177 d_M_nextToken_228 ?_
      refine z_lcmp hc d_M_nextToken_231 ?_
      refine z_if_le (tgt := 242) hc d_M_nextToken_232 (by decide) (fun hq => ?_) (fun hq => ?_)
      · have hf := ifp hq hf
        refine z_aload_n hc d_M_nextToken_242 0 rfl ?_
        refine gf_M_158 hc d_M_nextToken_243  ?_
        refine z_ldc2 (v := (lI 10)) hc cl_M_179 d_M_nextToken_246 ?_
        refine z_lmul hc d_M_nextToken_249 ?_
        refine z_aload_n hc d_M_nextToken_250 0 rfl ?_
        refine gf_M_22 hc d_M_nextToken_251  ?_
        refine z_aload_n hc d_M_nextToken_254 0 rfl ?_
        refine gf_M_152 hc d_M_nextToken_255  ?_
        obtain ⟨j22, hj23, hf⟩ := bd hf
        refine ald_mtape hc d_M_nextToken_258  hj23 ?_
        refine z_i2l hc d_M_nextToken_259 ?_
        refine z_ladd hc d_M_nextToken_260 ?_
        refine z_ldc2 (v := (lI 48)) hc cl_M_181 d_M_nextToken_261 ?_
        refine z_lsub hc d_M_nextToken_264 ?_
        refine z_sub [0] (L' := [(0, .ref (gAd g (6, 0, 0)))]) rfl ?_
        exact sj_M_nextToken_265 hc  ((((σ20.2.1 6 0 0 0) * (lI 10)) + ((σ20.1 24 0 0 j22 : Int32).toInt64)) - (lI 48))   σ20 _ hf hi he0
      · have hf := ifn hq hf
        refine z_aload_n hc d_M_nextToken_235 0 rfl ?_
        refine gf_M_158 hc d_M_nextToken_236  ?_
        refine z_goto (tgt := 265) hc d_M_nextToken_239 (by decide) ?_
        refine z_sub [0] (L' := [(0, .ref (gAd g (6, 0, 0)))]) rfl ?_
        exact sj_M_nextToken_265 hc  (σ20.2.1 6 0 0 0)   σ20 _ hf hi he0
def j_M_nextToken_298 (xs0 : Int32) (σ : Sg) : Option (Unit × Sg) :=
  some ((), upI σ 6 0 0 2 xs0)
theorem sj_M_nextToken_298 {x : Cx} {g : Gv} {ρ : Option Value × Sg} (hc : Zc x g c_M_nextToken R_M 1 none 2) (xs0 : Int32) (σ : Sg) (r : Unit × Sg) (hf : j_M_nextToken_298 xs0 σ = some r) (hρ : ρ = (none, r.2)) : Z x g 1 ρ 298 [] [.int xs0, .ref (gAd g (6, 0, 0))] σ := by
  unfold j_M_nextToken_298 at hf
  refine pf_M_162 hc d_M_nextToken_298  ?_
  refine z_goto (tgt := 337) hc d_M_nextToken_301 (by decide) ?_
  exact z_vret hc d_M_nextToken_337 (rV hf hρ)
def j_M_nextToken_281 (σ : Sg) : Option (Unit × Sg) :=
  (if (lg_cmp (σ.2.1 6 0 0 0) (lI 999)) ≤ (iI 0) then j_M_nextToken_298  (iI 2) σ else j_M_nextToken_298  (iI 4) σ)
theorem sj_M_nextToken_281 {x : Cx} {g : Gv} {ρ : Option Value × Sg} (hc : Zc x g c_M_nextToken R_M 1 none 2) (σ : Sg) (r : Unit × Sg) (hf : j_M_nextToken_281 σ = some r) (hρ : ρ = (none, r.2)) : Z x g 1 ρ 281 [(0, .ref (gAd g (6, 0, 0)))] [] σ := by
  unfold j_M_nextToken_281 at hf
  refine z_aload_n hc d_M_nextToken_281 0 rfl ?_
  refine z_aload_n hc d_M_nextToken_282 0 rfl ?_
  refine gf_M_158 hc d_M_nextToken_283  ?_
  refine z_ldc2 (v := (lI 999)) hc cl_M_177 d_M_nextToken_286 ?_
  refine z_lcmp hc d_M_nextToken_289 ?_
  refine z_if_le (tgt := 297) hc d_M_nextToken_290 (by decide) (fun hq => ?_) (fun hq => ?_)
  · have hf := ifp hq hf
    refine z_iconst (v := (iI 2)) hc d_M_nextToken_297 (by decide) ?_
    refine z_sub [] (L' := []) rfl ?_
    exact sj_M_nextToken_298 hc  (iI 2)   σ _ hf hρ
  · have hf := ifn hq hf
    refine z_iconst (v := (iI 4)) hc d_M_nextToken_293 (by decide) ?_
    refine z_goto (tgt := 298) hc d_M_nextToken_294 (by decide) ?_
    refine z_sub [] (L' := []) rfl ?_
    exact sj_M_nextToken_298 hc  (iI 4)   σ _ hf hρ
def j_M_nextToken_166 (xs0 : Int64) (σ : Sg) : Option ((Sg) ⊕ (Sg)) :=
  some (.inl (upI (upL σ 6 0 0 0 xs0) 6 0 0 4 (((upL σ 6 0 0 0 xs0).1 6 0 0 4) + (iI 1))))
theorem sj_M_nextToken_166 {x : Cx} {g : Gv} {ρ : Option Value × Sg} (hc : Zc x g c_M_nextToken R_M 1 none 2) (xs0 : Int64) (σ : Sg) (r : (Sg) ⊕ (Sg)) (hf : j_M_nextToken_166 xs0 σ = some r) (hi : ∀ a', r = .inl a' → Z x g 1 ρ 98 [(0, .ref (gAd g (6, 0, 0)))] [] a') (he0 : ∀ b, r = .inr b → Z x g 1 ρ 337 [] [] b) : Z x g 1 ρ 166 [(0, .ref (gAd g (6, 0, 0)))] [.long xs0, .ref (gAd g (6, 0, 0))] σ := by
  unfold j_M_nextToken_166 at hf
  refine pf_M_158 hc d_M_nextToken_166  ?_
  refine z_aload_n hc d_M_nextToken_169 0 rfl ?_
  refine z_dup hc d_M_nextToken_170 rfl ?_
  refine gf_M_152 hc d_M_nextToken_171  ?_
  refine z_iconst (v := (iI 1)) hc d_M_nextToken_174 (by decide) ?_
  refine z_iadd hc d_M_nextToken_175 ?_
  refine pf_M_152 hc d_M_nextToken_176  ?_
  refine z_goto (tgt := 98) hc d_M_nextToken_179 (by decide) ?_
  refine z_sub [0] (L' := [(0, .ref (gAd g (6, 0, 0)))]) rfl ?_
  exact hi (upI (upL σ 6 0 0 0 xs0) 6 0 0 4 (((upL σ 6 0 0 0 xs0).1 6 0 0 4) + (iI 1))) (Option.some.inj hf).symm
def b_M_nextToken_98 (σ : Sg) : Option ((Sg) ⊕ (Sg)) :=
  (if (σ.1 6 0 0 1) ≤ (σ.1 6 0 0 4) then some (.inr σ) else Option.bind (rd (σ.1 6 0 0 4) 120) (fun j28 => b2 (f_M_isLetter (σ.1 24 0 0 j28) σ) (fun v30 σ31 => (if v30 = (iI 0) then some (.inr σ31) else (if (lg_cmp (σ31.2.1 6 0 0 0) (lI 9999999999999)) ≤ (iI 0) then Option.bind (rd (σ31.1 6 0 0 4) 120) (fun j33 => j_M_nextToken_166  ((((σ31.2.1 6 0 0 0) * (lI 27)) + ((σ31.1 24 0 0 j33 : Int32).toInt64)) - (lI 96)) σ31) else j_M_nextToken_166  (σ31.2.1 6 0 0 0) σ31)))))
theorem sb_M_nextToken_98 {x : Cx} {g : Gv} {ρ : Option Value × Sg} (hc : Zc x g c_M_nextToken R_M 1 none 2) (σ : Sg) (r : (Sg) ⊕ (Sg)) (hf : b_M_nextToken_98 σ = some r) (hi : ∀ a', r = .inl a' → Z x g 1 ρ 98 [(0, .ref (gAd g (6, 0, 0)))] [] a') (he0 : ∀ b, r = .inr b → Z x g 1 ρ 337 [] [] b) : Z x g 1 ρ 98 [(0, .ref (gAd g (6, 0, 0)))] [] σ := by
  unfold b_M_nextToken_98 at hf
  refine z_aload_n hc d_M_nextToken_98 0 rfl ?_
  refine gf_M_152 hc d_M_nextToken_99  ?_
  refine z_aload_n hc d_M_nextToken_102 0 rfl ?_
  refine gf_M_148 hc d_M_nextToken_103  ?_
  refine z_icmp_ge (tgt := 337) hc d_M_nextToken_106 (by decide) (fun hq => ?_) (fun hq => ?_)
  · have hf := ifp hq hf
    refine z_sub [] (L' := []) rfl ?_
    exact he0 σ (Option.some.inj hf).symm
  · have hf := ifn hq hf
    refine z_aload_n hc d_M_nextToken_109 0 rfl ?_
    refine gf_M_22 hc d_M_nextToken_110  ?_
    refine z_aload_n hc d_M_nextToken_113 0 rfl ?_
    refine gf_M_152 hc d_M_nextToken_114  ?_
    obtain ⟨j28, hj29, hf⟩ := bd hf
    refine ald_mtape hc d_M_nextToken_117  hj29 ?_
    obtain ⟨v30, σ31, h32, hf⟩ := bd2 hf
    refine cz_M_165 hc d_M_nextToken_118 (by decide)  h32 (Nat.le_of_ble_eq_true rfl) ?_
    refine z_if_eq (tgt := 337) hc d_M_nextToken_121 (by decide) (fun hq => ?_) (fun hq => ?_)
    · have hf := ifp hq hf
      refine z_sub [] (L' := []) rfl ?_
      exact he0 σ31 (Option.some.inj hf).symm
    · have hf := ifn hq hf
      refine z_aload_n hc d_M_nextToken_124 0 rfl ?_
      refine z_aload_n hc d_M_nextToken_125 0 rfl ?_
      refine gf_M_158 hc d_M_nextToken_126  ?_
      refine z_ldc2 (v := (lI 9999999999999)) hc cl_M_168 d_M_nextToken_129 ?_
      refine z_lcmp hc d_M_nextToken_132 ?_
      refine z_if_le (tgt := 143) hc d_M_nextToken_133 (by decide) (fun hq => ?_) (fun hq => ?_)
      · have hf := ifp hq hf
        refine z_aload_n hc d_M_nextToken_143 0 rfl ?_
        refine gf_M_158 hc d_M_nextToken_144  ?_
        refine z_ldc2 (v := (lI 27)) hc cl_M_170 d_M_nextToken_147 ?_
        refine z_lmul hc d_M_nextToken_150 ?_
        refine z_aload_n hc d_M_nextToken_151 0 rfl ?_
        refine gf_M_22 hc d_M_nextToken_152  ?_
        refine z_aload_n hc d_M_nextToken_155 0 rfl ?_
        refine gf_M_152 hc d_M_nextToken_156  ?_
        obtain ⟨j33, hj34, hf⟩ := bd hf
        refine ald_mtape hc d_M_nextToken_159  hj34 ?_
        refine z_i2l hc d_M_nextToken_160 ?_
        refine z_ladd hc d_M_nextToken_161 ?_
        refine z_ldc2 (v := (lI 96)) hc cl_M_172 d_M_nextToken_162 ?_
        refine z_lsub hc d_M_nextToken_165 ?_
        refine z_sub [0] (L' := [(0, .ref (gAd g (6, 0, 0)))]) rfl ?_
        exact sj_M_nextToken_166 hc  ((((σ31.2.1 6 0 0 0) * (lI 27)) + ((σ31.1 24 0 0 j33 : Int32).toInt64)) - (lI 96))   σ31 _ hf hi he0
      · have hf := ifn hq hf
        refine z_aload_n hc d_M_nextToken_136 0 rfl ?_
        refine gf_M_158 hc d_M_nextToken_137  ?_
        refine z_goto (tgt := 166) hc d_M_nextToken_140 (by decide) ?_
        refine z_sub [0] (L' := [(0, .ref (gAd g (6, 0, 0)))]) rfl ?_
        exact sj_M_nextToken_166 hc  (σ31.2.1 6 0 0 0)   σ31 _ hf hi he0
def j_M_nextToken_46 (σ : Sg) : Option (Unit × Sg) :=
  (if ((upL (upI σ 6 0 0 4 (σ.1 6 0 0 3)) 6 0 0 0 (lI 0)).1 6 0 0 3) = ((upL (upI σ 6 0 0 4 (σ.1 6 0 0 3)) 6 0 0 0 (lI 0)).1 6 0 0 1) then some ((), upI (upL (upI σ 6 0 0 4 (σ.1 6 0 0 3)) 6 0 0 0 (lI 0)) 6 0 0 2 (iI 0)) else Option.bind (rd ((upL (upI σ 6 0 0 4 (σ.1 6 0 0 3)) 6 0 0 0 (lI 0)).1 6 0 0 3) 120) (fun j5 => b2 (f_M_isLetter ((upL (upI σ 6 0 0 4 (σ.1 6 0 0 3)) 6 0 0 0 (lI 0)).1 24 0 0 j5) (upL (upI σ 6 0 0 4 (σ.1 6 0 0 3)) 6 0 0 0 (lI 0))) (fun v7 σ8 => (if v7 = (iI 0) then Option.bind (rd (σ8.1 6 0 0 3) 120) (fun j10 => b2 (f_M_isDigit (σ8.1 24 0 0 j10) σ8) (fun v12 σ13 => (if v12 = (iI 0) then Option.bind (rd (σ13.1 6 0 0 3) 120) (fun j15 => (if (σ13.1 24 0 0 j15) = (iI 59) then j_M_nextToken_324  (iI 3) σ13 else j_M_nextToken_324  (iI 4) σ13)) else Option.bind (lp (fun a => b_M_nextToken_197  a) FU σ13) (fun b26 => j_M_nextToken_281   b26)))) else Option.bind (lp (fun a => b_M_nextToken_98  a) FU (upI σ8 6 0 0 2 (iI 1))) (fun b37 => some ((), b37))))))
theorem sj_M_nextToken_46 {x : Cx} {g : Gv} {ρ : Option Value × Sg} (hc : Zc x g c_M_nextToken R_M 1 none 2) (σ : Sg) (r : Unit × Sg) (hf : j_M_nextToken_46 σ = some r) (hρ : ρ = (none, r.2)) : Z x g 1 ρ 46 [(0, .ref (gAd g (6, 0, 0)))] [] σ := by
  unfold j_M_nextToken_46 at hf
  refine z_aload_n hc d_M_nextToken_46 0 rfl ?_
  refine z_aload_n hc d_M_nextToken_47 0 rfl ?_
  refine gf_M_155 hc d_M_nextToken_48  ?_
  refine pf_M_152 hc d_M_nextToken_51  ?_
  refine z_aload_n hc d_M_nextToken_54 0 rfl ?_
  refine z_lconst (v := (lI 0)) hc d_M_nextToken_55 (by decide) ?_
  refine pf_M_158 hc d_M_nextToken_56  ?_
  refine z_aload_n hc d_M_nextToken_59 0 rfl ?_
  refine gf_M_155 hc d_M_nextToken_60  ?_
  refine z_aload_n hc d_M_nextToken_63 0 rfl ?_
  refine gf_M_148 hc d_M_nextToken_64  ?_
  refine z_icmp_ne (tgt := 78) hc d_M_nextToken_67 (by decide) (fun hq => ?_) (fun hq => ?_)
  · have hf := ifn hq hf
    refine z_aload_n hc d_M_nextToken_78 0 rfl ?_
    refine gf_M_22 hc d_M_nextToken_79  ?_
    refine z_aload_n hc d_M_nextToken_82 0 rfl ?_
    refine gf_M_155 hc d_M_nextToken_83  ?_
    obtain ⟨j5, hj6, hf⟩ := bd hf
    refine ald_mtape hc d_M_nextToken_86  hj6 ?_
    obtain ⟨v7, σ8, h9, hf⟩ := bd2 hf
    refine cz_M_165 hc d_M_nextToken_87 (by decide)  h9 (Nat.le_of_ble_eq_true rfl) ?_
    refine z_if_eq (tgt := 182) hc d_M_nextToken_90 (by decide) (fun hq => ?_) (fun hq => ?_)
    · have hf := ifp hq hf
      refine z_aload_n hc d_M_nextToken_182 0 rfl ?_
      refine gf_M_22 hc d_M_nextToken_183  ?_
      refine z_aload_n hc d_M_nextToken_186 0 rfl ?_
      refine gf_M_155 hc d_M_nextToken_187  ?_
      obtain ⟨j10, hj11, hf⟩ := bd hf
      refine ald_mtape hc d_M_nextToken_190  hj11 ?_
      obtain ⟨v12, σ13, h14, hf⟩ := bd2 hf
      refine cz_M_174 hc d_M_nextToken_191 (by decide)  h14 (Nat.le_of_ble_eq_true rfl) ?_
      refine z_if_eq (tgt := 304) hc d_M_nextToken_194 (by decide) (fun hq => ?_) (fun hq => ?_)
      · have hf := ifp hq hf
        refine z_aload_n hc d_M_nextToken_304 0 rfl ?_
        refine z_aload_n hc d_M_nextToken_305 0 rfl ?_
        refine gf_M_22 hc d_M_nextToken_306  ?_
        refine z_aload_n hc d_M_nextToken_309 0 rfl ?_
        refine gf_M_155 hc d_M_nextToken_310  ?_
        obtain ⟨j15, hj16, hf⟩ := bd hf
        refine ald_mtape hc d_M_nextToken_313  hj16 ?_
        refine z_bipush (v := (iI 59)) hc d_M_nextToken_314 (by decide) ?_
        refine z_icmp_ne (tgt := 323) hc d_M_nextToken_316 (by decide) (fun hq => ?_) (fun hq => ?_)
        · have hf := ifn hq hf
          refine z_iconst (v := (iI 4)) hc d_M_nextToken_323 (by decide) ?_
          refine z_sub [0] (L' := [(0, .ref (gAd g (6, 0, 0)))]) rfl ?_
          exact sj_M_nextToken_324 hc  (iI 4)   σ13 _ hf hρ
        · have hf := ifp hq hf
          refine z_iconst (v := (iI 3)) hc d_M_nextToken_319 (by decide) ?_
          refine z_goto (tgt := 324) hc d_M_nextToken_320 (by decide) ?_
          refine z_sub [0] (L' := [(0, .ref (gAd g (6, 0, 0)))]) rfl ?_
          exact sj_M_nextToken_324 hc  (iI 3)   σ13 _ hf hρ
      · have hf := ifn hq hf
        refine z_sub [0] (L' := [(0, .ref (gAd g (6, 0, 0)))]) rfl ?_
        obtain ⟨σ25, hl27, hf⟩ := bd hf
        try dsimp only at hf
        refine lp_walk (α := (Sg)) (β := (Sg)) (body := (fun a : (Sg) => b_M_nextToken_197  a)) (In := (fun a : (Sg) => Z x g 1 ρ 197 [(0, .ref (gAd g (6, 0, 0)))] [] a)) (Out := (fun b => Z x g 1 ρ 281 [(0, .ref (gAd g (6, 0, 0)))] [] b)) (fun a r hb hi ho => sb_M_nextToken_197 hc   a r hb hi (fun b e => ho _ e)) FU σ13 _ hl27 ?_
        refine z_sub [0] (L' := [(0, .ref (gAd g (6, 0, 0)))]) rfl ?_
        exact sj_M_nextToken_281 hc     σ25 _ hf hρ
    · have hf := ifn hq hf
      refine z_aload_n hc d_M_nextToken_93 0 rfl ?_
      refine z_iconst (v := (iI 1)) hc d_M_nextToken_94 (by decide) ?_
      refine pf_M_162 hc d_M_nextToken_95  ?_
      refine z_sub [0] (L' := [(0, .ref (gAd g (6, 0, 0)))]) rfl ?_
      obtain ⟨σ36, hl38, hf⟩ := bd hf
      try dsimp only at hf
      refine lp_walk (α := (Sg)) (β := (Sg)) (body := (fun a : (Sg) => b_M_nextToken_98  a)) (In := (fun a : (Sg) => Z x g 1 ρ 98 [(0, .ref (gAd g (6, 0, 0)))] [] a)) (Out := (fun b => Z x g 1 ρ 337 [] [] b)) (fun a r hb hi ho => sb_M_nextToken_98 hc   a r hb hi (fun b e => ho _ e)) FU (upI σ8 6 0 0 2 (iI 1)) _ hl38 ?_
      exact z_vret hc d_M_nextToken_337 (rV hf hρ)
  · have hf := ifp hq hf
    refine z_aload_n hc d_M_nextToken_70 0 rfl ?_
    refine z_iconst (v := (iI 0)) hc d_M_nextToken_71 (by decide) ?_
    refine pf_M_162 hc d_M_nextToken_72  ?_
    refine z_goto (tgt := 337) hc d_M_nextToken_75 (by decide) ?_
    exact z_vret hc d_M_nextToken_337 (rV hf hρ)
def f_M_nextToken (σ : Sg) : Option (Unit × Sg) :=
  Option.bind (lp (fun a => b_M_nextToken_8  a) FU (upI σ 6 0 0 3 (σ.1 6 0 0 4))) (fun b39 => j_M_nextToken_46   b39)
theorem ok_M_nextToken (g : Gv) (σ : Sg) (r : Unit × Sg) (hf : f_M_nextToken σ = some r) : Ok g y_M_nextToken c_M_nextToken 1 none 2 [.ref (gAd g (6, 0, 0))] σ (none, r.2) := by
  unfold f_M_nextToken at hf
  refine Ok.of [(0, .ref (gAd g (6, 0, 0)))] (by decide) (Nat.le_of_ble_eq_true rfl) rfl ?_
  intro x hc
  have hc : Zc x g c_M_nextToken R_M 1 none 2 := hc
  obtain ⟨ρ, hρ⟩ : ∃ ρ : Option Value × Sg, ρ = (none, r.2) := ⟨_, rfl⟩
  rw [← hρ]
  refine z_aload_n hc d_M_nextToken_0 0 rfl ?_
  refine z_aload_n hc d_M_nextToken_1 0 rfl ?_
  refine gf_M_152 hc d_M_nextToken_2  ?_
  refine pf_M_155 hc d_M_nextToken_5  ?_
  refine z_sub [0] (L' := [(0, .ref (gAd g (6, 0, 0)))]) rfl ?_
  obtain ⟨σ4, hl40, hf⟩ := bd hf
  try dsimp only at hf
  refine lp_walk (α := (Sg)) (β := (Sg)) (body := (fun a : (Sg) => b_M_nextToken_8  a)) (In := (fun a : (Sg) => Z x g 1 ρ 8 [(0, .ref (gAd g (6, 0, 0)))] [] a)) (Out := (fun b => Z x g 1 ρ 46 [(0, .ref (gAd g (6, 0, 0)))] [] b)) (fun a r hb hi ho => sb_M_nextToken_8 hc   a r hb hi (fun b e => ho _ e)) FU (upI σ 6 0 0 3 (σ.1 6 0 0 4)) _ hl40 ?_
  refine z_sub [0] (L' := [(0, .ref (gAd g (6, 0, 0)))]) rfl ?_
  exact sj_M_nextToken_46 hc     σ4 _ hf hρ
def b_M_wordOf_27 (w1 : Nat) (x2 : Int32) (x3 : Int32) (x4 : Int64) (x6 : Int32) (σ : Sg) : Option ((Int64 × Int32 × Sg) ⊕ (Int64 × Sg)) :=
  (if (iI 8) ≤ x6 then some (.inr (x4, σ)) else Option.bind (rd (((iI 8) * x3) + x6) (chs w1).length) (fun j1 => (if (chA w1 j1) = (iI 32) then some (.inl (x4, x6 + (iI 1), σ)) else Option.bind (rd (((iI 8) * x3) + x6) (chs w1).length) (fun j3 => some (.inl (((x4 * (lI 27)) + ((chA w1 j3 : Int32).toInt64)) - (lI 96), x6 + (iI 1), σ))))))
theorem sb_M_wordOf_27 {x : Cx} {g : Gv} {ρ : Option Value × Sg} (hc : Zc x g c_M_wordOf R_M 7 (some .int) 0) (w1 : Nat) (x2 : Int32) (x3 : Int32) (hv1 : w1 < 3) (x4 : Int64) (x6 : Int32) (σ : Sg) (r : (Int64 × Int32 × Sg) ⊕ (Int64 × Sg)) (hf : b_M_wordOf_27 w1 x2 x3 x4 x6 σ = some r) (hi : ∀ a', r = .inl a' → Z x g 7 ρ 27 [(0, .ref (gAd g (6, 0, 0))), (1, .ref (gAd g (25, w1, 0))), (2, .int x2), (3, .int x3), (4, .long a'.1), (6, .int a'.2.1)] [] a'.2.2) (he0 : ∀ b, r = .inr b → Z x g 7 ρ 82 [(0, .ref (gAd g (6, 0, 0))), (1, .ref (gAd g (25, w1, 0))), (2, .int x2), (3, .int x3), (4, .long b.1)] [] b.2) : Z x g 7 ρ 27 [(0, .ref (gAd g (6, 0, 0))), (1, .ref (gAd g (25, w1, 0))), (2, .int x2), (3, .int x3), (4, .long x4), (6, .int x6)] [] σ := by
  unfold b_M_wordOf_27 at hf
  refine z_iload hc d_M_wordOf_27 5 rfl ?_
  refine z_bipush (v := (iI 8)) hc d_M_wordOf_29 (by decide) ?_
  refine z_icmp_ge (tgt := 82) hc d_M_wordOf_31 (by decide) (fun hq => ?_) (fun hq => ?_)
  · have hf := ifp hq hf
    refine z_sub [0, 1, 2, 3, 4] (L' := [(0, .ref (gAd g (6, 0, 0))), (1, .ref (gAd g (25, w1, 0))), (2, .int x2), (3, .int x3), (4, .long x4)]) rfl ?_
    exact he0 (x4, σ) (Option.some.inj hf).symm
  · have hf := ifn hq hf
    refine z_aload_n hc d_M_wordOf_34 1 rfl ?_
    refine z_bipush (v := (iI 8)) hc d_M_wordOf_35 (by decide) ?_
    refine z_iload_n hc d_M_wordOf_37 3 rfl ?_
    refine z_imul hc d_M_wordOf_38 ?_
    refine z_iload hc d_M_wordOf_39 5 rfl ?_
    refine z_iadd hc d_M_wordOf_41 ?_
    obtain ⟨j1, hj2, hf⟩ := bd hf
    refine ald_chars hc d_M_wordOf_42 hv1 hj2 ?_
    refine z_bipush (v := (iI 32)) hc d_M_wordOf_43 (by decide) ?_
    refine z_icmp_ne (tgt := 53) hc d_M_wordOf_45 (by decide) (fun hq => ?_) (fun hq => ?_)
    · have hf := ifn hq hf
      refine z_lload hc d_M_wordOf_53 4 rfl ?_
      refine z_ldc2 (v := (lI 27)) hc cl_M_170 d_M_wordOf_55 ?_
      refine z_lmul hc d_M_wordOf_58 ?_
      refine z_aload_n hc d_M_wordOf_59 1 rfl ?_
      refine z_bipush (v := (iI 8)) hc d_M_wordOf_60 (by decide) ?_
      refine z_iload_n hc d_M_wordOf_62 3 rfl ?_
      refine z_imul hc d_M_wordOf_63 ?_
      refine z_iload hc d_M_wordOf_64 5 rfl ?_
      refine z_iadd hc d_M_wordOf_66 ?_
      obtain ⟨j3, hj4, hf⟩ := bd hf
      refine ald_chars hc d_M_wordOf_67 hv1 hj4 ?_
      refine z_i2l hc d_M_wordOf_68 ?_
      refine z_ladd hc d_M_wordOf_69 ?_
      refine z_ldc2 (v := (lI 96)) hc cl_M_172 d_M_wordOf_70 ?_
      refine z_lsub hc d_M_wordOf_73 ?_
      refine z_lstore (L' := [(4, .long (((x4 * (lI 27)) + ((chA w1 j3 : Int32).toInt64)) - (lI 96))), (0, .ref (gAd g (6, 0, 0))), (1, .ref (gAd g (25, w1, 0))), (2, .int x2), (3, .int x3), (6, .int x6)]) hc d_M_wordOf_74 (by decide) rfl ?_
      refine z_iinc (v := x6 + (iI 1)) (L' := [(6, .int (x6 + (iI 1))), (4, .long (((x4 * (lI 27)) + ((chA w1 j3 : Int32).toInt64)) - (lI 96))), (0, .ref (gAd g (6, 0, 0))), (1, .ref (gAd g (25, w1, 0))), (2, .int x2), (3, .int x3)]) hc d_M_wordOf_76 5 rfl rfl (by decide) rfl ?_
      refine z_goto (tgt := 27) hc d_M_wordOf_79 (by decide) ?_
      refine z_sub [2, 3, 4, 5, 1, 0] (L' := [(0, .ref (gAd g (6, 0, 0))), (1, .ref (gAd g (25, w1, 0))), (2, .int x2), (3, .int x3), (4, .long (((x4 * (lI 27)) + ((chA w1 j3 : Int32).toInt64)) - (lI 96))), (6, .int (x6 + (iI 1)))]) rfl ?_
      exact hi (((x4 * (lI 27)) + ((chA w1 j3 : Int32).toInt64)) - (lI 96), x6 + (iI 1), σ) (Option.some.inj hf).symm
    · have hf := ifp hq hf
      refine z_lload hc d_M_wordOf_48 4 rfl ?_
      refine z_goto (tgt := 74) hc d_M_wordOf_50 (by decide) ?_
      refine z_lstore (L' := [(4, .long x4), (0, .ref (gAd g (6, 0, 0))), (1, .ref (gAd g (25, w1, 0))), (2, .int x2), (3, .int x3), (6, .int x6)]) hc d_M_wordOf_74 (by decide) rfl ?_
      refine z_iinc (v := x6 + (iI 1)) (L' := [(6, .int (x6 + (iI 1))), (4, .long x4), (0, .ref (gAd g (6, 0, 0))), (1, .ref (gAd g (25, w1, 0))), (2, .int x2), (3, .int x3)]) hc d_M_wordOf_76 5 rfl rfl (by decide) rfl ?_
      refine z_goto (tgt := 27) hc d_M_wordOf_79 (by decide) ?_
      refine z_sub [2, 3, 4, 5, 1, 0] (L' := [(0, .ref (gAd g (6, 0, 0))), (1, .ref (gAd g (25, w1, 0))), (2, .int x2), (3, .int x3), (4, .long x4), (6, .int (x6 + (iI 1)))]) rfl ?_
      exact hi (x4, x6 + (iI 1), σ) (Option.some.inj hf).symm
def b_M_wordOf_4 (w1 : Nat) (x2 : Int32) (x3 : Int32) (σ : Sg) : Option ((Int32 × Int32 × Sg) ⊕ (Int32 × Sg)) :=
  (if (((Int32.ofNat (chs w1).length)) / (iI 8)) ≤ x3 then some (.inr (x2, σ)) else (if (σ.1 6 0 0 2) = (iI 1) then Option.bind (lp (fun a => b_M_wordOf_27 w1 x2 x3 a.1 a.2.1 a.2.2) FU ((lI 0), (iI 0), σ)) (fun b8 => (if (lg_cmp b8.1 (b8.2.2.1 6 0 0 0)) = (iI 0) then some (.inl (x3, x3 + (iI 1), b8.2)) else some (.inl (x2, x3 + (iI 1), b8.2)))) else some (.inr (x2, σ))))
theorem sb_M_wordOf_4 {x : Cx} {g : Gv} {ρ : Option Value × Sg} (hc : Zc x g c_M_wordOf R_M 7 (some .int) 0) (w1 : Nat) (hv1 : w1 < 3) (x2 : Int32) (x3 : Int32) (σ : Sg) (r : (Int32 × Int32 × Sg) ⊕ (Int32 × Sg)) (hf : b_M_wordOf_4 w1 x2 x3 σ = some r) (hi : ∀ a', r = .inl a' → Z x g 7 ρ 4 [(0, .ref (gAd g (6, 0, 0))), (1, .ref (gAd g (25, w1, 0))), (2, .int a'.1), (3, .int a'.2.1)] [] a'.2.2) (he0 : ∀ b, r = .inr b → Z x g 7 ρ 104 [(2, .int b.1)] [] b.2) : Z x g 7 ρ 4 [(0, .ref (gAd g (6, 0, 0))), (1, .ref (gAd g (25, w1, 0))), (2, .int x2), (3, .int x3)] [] σ := by
  unfold b_M_wordOf_4 at hf
  refine z_iload_n hc d_M_wordOf_4 3 rfl ?_
  refine z_aload_n hc d_M_wordOf_5 1 rfl ?_
  refine aln_chars hc d_M_wordOf_6 hv1 ?_
  refine z_bipush (v := (iI 8)) hc d_M_wordOf_7 (by decide) ?_
  refine z_idiv hc d_M_wordOf_9 (by decide) ?_
  refine z_icmp_ge (tgt := 104) hc d_M_wordOf_10 (by decide) (fun hq => ?_) (fun hq => ?_)
  · have hf := ifp hq hf
    refine z_sub [2] (L' := [(2, .int x2)]) rfl ?_
    exact he0 (x2, σ) (Option.some.inj hf).symm
  · have hf := ifn hq hf
    refine z_aload_n hc d_M_wordOf_13 0 rfl ?_
    refine gf_M_162 hc d_M_wordOf_14  ?_
    refine z_iconst (v := (iI 1)) hc d_M_wordOf_17 (by decide) ?_
    refine z_icmp_ne (tgt := 104) hc d_M_wordOf_18 (by decide) (fun hq => ?_) (fun hq => ?_)
    · have hf := ifn hq hf
      refine z_sub [2] (L' := [(2, .int x2)]) rfl ?_
      exact he0 (x2, σ) (Option.some.inj hf).symm
    · have hf := ifp hq hf
      refine z_lconst (v := (lI 0)) hc d_M_wordOf_21 (by decide) ?_
      refine z_lstore (L' := [(4, .long (lI 0)), (0, .ref (gAd g (6, 0, 0))), (1, .ref (gAd g (25, w1, 0))), (2, .int x2), (3, .int x3)]) hc d_M_wordOf_22 (by decide) rfl ?_
      refine z_iconst (v := (iI 0)) hc d_M_wordOf_24 (by decide) ?_
      refine z_istore (L' := [(6, .int (iI 0)), (4, .long (lI 0)), (0, .ref (gAd g (6, 0, 0))), (1, .ref (gAd g (25, w1, 0))), (2, .int x2), (3, .int x3)]) hc d_M_wordOf_25 (by decide) rfl ?_
      refine z_sub [2, 3, 4, 5, 1, 0] (L' := [(0, .ref (gAd g (6, 0, 0))), (1, .ref (gAd g (25, w1, 0))), (2, .int x2), (3, .int x3), (4, .long (lI 0)), (6, .int (iI 0))]) rfl ?_
      obtain ⟨⟨y6, σ7⟩, hl9, hf⟩ := bd hf
      try dsimp only at hf
      refine lp_walk (α := (Int64 × Int32 × Sg)) (β := (Int64 × Sg)) (body := (fun a : (Int64 × Int32 × Sg) => b_M_wordOf_27 w1 x2 x3 a.1 a.2.1 a.2.2)) (In := (fun a : (Int64 × Int32 × Sg) => Z x g 7 ρ 27 [(0, .ref (gAd g (6, 0, 0))), (1, .ref (gAd g (25, w1, 0))), (2, .int x2), (3, .int x3), (4, .long a.1), (6, .int a.2.1)] [] a.2.2)) (Out := (fun b => Z x g 7 ρ 82 [(0, .ref (gAd g (6, 0, 0))), (1, .ref (gAd g (25, w1, 0))), (2, .int x2), (3, .int x3), (4, .long b.1)] [] b.2)) (fun a r hb hi ho => sb_M_wordOf_27 hc w1 x2 x3 hv1 a.1 a.2.1 a.2.2 r hb hi (fun b e => ho _ e)) FU ((lI 0), (iI 0), σ) _ hl9 ?_
      dsimp only
      refine z_lload hc d_M_wordOf_82 4 rfl ?_
      refine z_aload_n hc d_M_wordOf_84 0 rfl ?_
      refine gf_M_158 hc d_M_wordOf_85  ?_
      refine z_lcmp hc d_M_wordOf_88 ?_
      refine z_if_ne (tgt := 96) hc d_M_wordOf_89 (by decide) (fun hq => ?_) (fun hq => ?_)
      · have hf := ifn hq hf
        refine z_iload_n hc d_M_wordOf_96 2 rfl ?_
        refine z_istore_n (L' := [(2, .int x2), (0, .ref (gAd g (6, 0, 0))), (1, .ref (gAd g (25, w1, 0))), (3, .int x3), (4, .long y6)]) hc d_M_wordOf_97 (by decide) rfl ?_
        refine z_iinc (v := x3 + (iI 1)) (L' := [(3, .int (x3 + (iI 1))), (2, .int x2), (0, .ref (gAd g (6, 0, 0))), (1, .ref (gAd g (25, w1, 0))), (4, .long y6)]) hc d_M_wordOf_98 3 rfl rfl (by decide) rfl ?_
        refine z_goto (tgt := 4) hc d_M_wordOf_101 (by decide) ?_
        refine z_sub [2, 3, 1, 0] (L' := [(0, .ref (gAd g (6, 0, 0))), (1, .ref (gAd g (25, w1, 0))), (2, .int x2), (3, .int (x3 + (iI 1)))]) rfl ?_
        exact hi (x2, x3 + (iI 1), σ7) (Option.some.inj hf).symm
      · have hf := ifp hq hf
        refine z_iload_n hc d_M_wordOf_92 3 rfl ?_
        refine z_goto (tgt := 97) hc d_M_wordOf_93 (by decide) ?_
        refine z_istore_n (L' := [(2, .int x3), (0, .ref (gAd g (6, 0, 0))), (1, .ref (gAd g (25, w1, 0))), (3, .int x3), (4, .long y6)]) hc d_M_wordOf_97 (by decide) rfl ?_
        refine z_iinc (v := x3 + (iI 1)) (L' := [(3, .int (x3 + (iI 1))), (2, .int x3), (0, .ref (gAd g (6, 0, 0))), (1, .ref (gAd g (25, w1, 0))), (4, .long y6)]) hc d_M_wordOf_98 3 rfl rfl (by decide) rfl ?_
        refine z_goto (tgt := 4) hc d_M_wordOf_101 (by decide) ?_
        refine z_sub [2, 3, 1, 0] (L' := [(0, .ref (gAd g (6, 0, 0))), (1, .ref (gAd g (25, w1, 0))), (2, .int x3), (3, .int (x3 + (iI 1)))]) rfl ?_
        exact hi (x3, x3 + (iI 1), σ7) (Option.some.inj hf).symm
def f_M_wordOf (w1 : Nat) (σ : Sg) : Option (Int32 × Sg) :=
  Option.bind (lp (fun a => b_M_wordOf_4 w1 a.1 a.2.1 a.2.2) FU ((iI (-1)), (iI 0), σ)) (fun b13 => some (b13.1, b13.2))
theorem ok_M_wordOf (g : Gv) (w1 : Nat) (hv1 : w1 < 3) (σ : Sg) (r : Int32 × Sg) (hf : f_M_wordOf w1 σ = some r) : Ok g y_M_wordOf c_M_wordOf 7 (some .int) 0 [.ref (gAd g (6, 0, 0)), .ref (gAd g (25, w1, 0))] σ (some (.int r.1), r.2) := by
  unfold f_M_wordOf at hf
  refine Ok.of [(0, .ref (gAd g (6, 0, 0))), (1, .ref (gAd g (25, w1, 0)))] (by decide) (Nat.le_of_ble_eq_true rfl) rfl ?_
  intro x hc
  have hc : Zc x g c_M_wordOf R_M 7 (some .int) 0 := hc
  obtain ⟨ρ, hρ⟩ : ∃ ρ : Option Value × Sg, ρ = (some (.int r.1), r.2) := ⟨_, rfl⟩
  rw [← hρ]
  refine z_iconst (v := (iI (-1))) hc d_M_wordOf_0 (by decide) ?_
  refine z_istore_n (L' := [(2, .int (iI (-1))), (0, .ref (gAd g (6, 0, 0))), (1, .ref (gAd g (25, w1, 0)))]) hc d_M_wordOf_1 (by decide) rfl ?_
  refine z_iconst (v := (iI 0)) hc d_M_wordOf_2 (by decide) ?_
  refine z_istore_n (L' := [(3, .int (iI 0)), (2, .int (iI (-1))), (0, .ref (gAd g (6, 0, 0))), (1, .ref (gAd g (25, w1, 0)))]) hc d_M_wordOf_3 (by decide) rfl ?_
  refine z_sub [2, 3, 1, 0] (L' := [(0, .ref (gAd g (6, 0, 0))), (1, .ref (gAd g (25, w1, 0))), (2, .int (iI (-1))), (3, .int (iI 0))]) rfl ?_
  obtain ⟨⟨y11, σ12⟩, hl14, hf⟩ := bd hf
  try dsimp only at hf
  refine lp_walk (α := (Int32 × Int32 × Sg)) (β := (Int32 × Sg)) (body := (fun a : (Int32 × Int32 × Sg) => b_M_wordOf_4 w1 a.1 a.2.1 a.2.2)) (In := (fun a : (Int32 × Int32 × Sg) => Z x g 7 ρ 4 [(0, .ref (gAd g (6, 0, 0))), (1, .ref (gAd g (25, w1, 0))), (2, .int a.1), (3, .int a.2.1)] [] a.2.2)) (Out := (fun b => Z x g 7 ρ 104 [(2, .int b.1)] [] b.2)) (fun a r hb hi ho => sb_M_wordOf_4 hc w1 hv1 a.1 a.2.1 a.2.2 r hb hi (fun b e => ho _ e)) FU ((iI (-1)), (iI 0), σ) _ hl14 ?_
  dsimp only
  refine z_iload_n hc d_M_wordOf_104 0 rfl ?_
  exact z_iret hc d_M_wordOf_105 (rI hf hρ)
theorem vl_M_183 : VL R_M 183 y_M_nextToken c_M_nextToken 1 none 0 := ⟨tb5 178 (by decide +kernel) (by decide +kernel), tb5 180 (by decide +kernel) (by decide +kernel), tbp 35 (by decide +kernel), tb1 12 (by decide +kernel) (by decide +kernel), k_M_nextToken, by decide, by decide, by decide +kernel, by decide⟩
theorem cz_M_183 {x : Cx} {g : Gv} {cc : ByteArray} {nL d pc : Nat} {ret : Option FieldType} {ρ : Option Value × Sg} {L : List (Nat × Value)} {st : List Value} {σ : Sg} (hc : Zc x g cc R_M nL ret d) (hd : decode cc pc = .ok (.invokevirtual 183, 3)) (hdd : 3 ≤ d) {v : Unit} {σ1 : Sg} (hf : f_M_nextToken σ = some (v, σ1)) (hst : (st.map (fun v => v.category)).sum ≤ 8) (k : Z x g nL ρ (pc + 3) L (st) σ1) : Z x g nL ρ pc L (.ref (gAd g (6, 0, 0)) :: st) σ := z_callV (ci := 11) (As := []) hc hd vl_M_183 hdd (6, 0, 0) (dm_M) rfl rfl (ok_M_nextToken g σ (v, σ1) hf) rfl rfl hst rfl k
def j_M_takesNumber_30 (xs0 : Int32) (σ : Sg) : Option (Int32 × Sg) :=
  (if xs0 < (iI 0) then some (xs0, σ) else b2 (f_M_nextToken  σ) (fun v1 σ2 => some (xs0, σ2)))
theorem sj_M_takesNumber_30 {x : Cx} {g : Gv} {ρ : Option Value × Sg} (hc : Zc x g c_M_takesNumber R_M 4 (some .int) 3) (xs0 : Int32) (σ : Sg) (r : Int32 × Sg) (hf : j_M_takesNumber_30 xs0 σ = some r) (hρ : ρ = (some (.int r.1), r.2)) : Z x g 4 ρ 30 [(0, .ref (gAd g (6, 0, 0)))] [.int xs0] σ := by
  unfold j_M_takesNumber_30 at hf
  refine z_istore_n (L' := [(3, .int xs0), (0, .ref (gAd g (6, 0, 0)))]) hc d_M_takesNumber_30 (by decide) rfl ?_
  refine z_iload_n hc d_M_takesNumber_31 0 rfl ?_
  refine z_if_lt (tgt := 39) hc d_M_takesNumber_32 (by decide) (fun hq => ?_) (fun hq => ?_)
  · have hf := ifp hq hf
    refine z_iload_n hc d_M_takesNumber_39 0 rfl ?_
    exact z_iret hc d_M_takesNumber_40 (rI hf hρ)
  · have hf := ifn hq hf
    refine z_aload_n hc d_M_takesNumber_35 1 rfl ?_
    obtain ⟨v1, σ2, h3, hf⟩ := bd2 hf
    refine cz_M_183 hc d_M_takesNumber_36 (by decide)  h3 (Nat.le_of_ble_eq_true rfl) ?_
    refine z_iload_n hc d_M_takesNumber_39 0 rfl ?_
    exact z_iret hc d_M_takesNumber_40 (rI hf hρ)
def f_M_takesNumber (x1 : Int32) (x2 : Int32) (σ : Sg) : Option (Int32 × Sg) :=
  (if (σ.1 6 0 0 2) = (iI 2) then b2 (f_M_in1 ((σ.2.1 6 0 0 0 : Int64).toInt32) x1 x2 σ) (fun v4 σ5 => (if v4 = (iI 0) then j_M_takesNumber_30  (iI (-1)) σ5 else j_M_takesNumber_30  ((σ5.2.1 6 0 0 0 : Int64).toInt32) σ5)) else j_M_takesNumber_30  (iI (-1)) σ)
theorem ok_M_takesNumber (g : Gv) (x1 : Int32) (x2 : Int32) (σ : Sg) (r : Int32 × Sg) (hf : f_M_takesNumber x1 x2 σ = some r) : Ok g y_M_takesNumber c_M_takesNumber 4 (some .int) 3 [.ref (gAd g (6, 0, 0)), .int x1, .int x2] σ (some (.int r.1), r.2) := by
  unfold f_M_takesNumber at hf
  refine Ok.of [(0, .ref (gAd g (6, 0, 0))), (1, .int x1), (2, .int x2)] (by decide) (Nat.le_of_ble_eq_true rfl) rfl ?_
  intro x hc
  have hc : Zc x g c_M_takesNumber R_M 4 (some .int) 3 := hc
  obtain ⟨ρ, hρ⟩ : ∃ ρ : Option Value × Sg, ρ = (some (.int r.1), r.2) := ⟨_, rfl⟩
  rw [← hρ]
  refine z_aload_n hc d_M_takesNumber_0 0 rfl ?_
  refine gf_M_162 hc d_M_takesNumber_1  ?_
  refine z_iconst (v := (iI 2)) hc d_M_takesNumber_4 (by decide) ?_
  refine z_icmp_ne (tgt := 29) hc d_M_takesNumber_5 (by decide) (fun hq => ?_) (fun hq => ?_)
  · have hf := ifn hq hf
    refine z_iconst (v := (iI (-1))) hc d_M_takesNumber_29 (by decide) ?_
    refine z_sub [0] (L' := [(0, .ref (gAd g (6, 0, 0)))]) rfl ?_
    exact sj_M_takesNumber_30 hc  (iI (-1))   σ _ hf hρ
  · have hf := ifp hq hf
    refine z_aload_n hc d_M_takesNumber_8 0 rfl ?_
    refine gf_M_158 hc d_M_takesNumber_9  ?_
    refine z_l2i hc d_M_takesNumber_12 ?_
    refine z_iload_n hc d_M_takesNumber_13 1 rfl ?_
    refine z_iload_n hc d_M_takesNumber_14 2 rfl ?_
    obtain ⟨v4, σ5, h6, hf⟩ := bd2 hf
    refine cz_M_49 hc d_M_takesNumber_15 (by decide)  h6 (Nat.le_of_ble_eq_true rfl) ?_
    refine z_if_eq (tgt := 29) hc d_M_takesNumber_18 (by decide) (fun hq => ?_) (fun hq => ?_)
    · have hf := ifp hq hf
      refine z_iconst (v := (iI (-1))) hc d_M_takesNumber_29 (by decide) ?_
      refine z_sub [0] (L' := [(0, .ref (gAd g (6, 0, 0)))]) rfl ?_
      exact sj_M_takesNumber_30 hc  (iI (-1))   σ5 _ hf hρ
    · have hf := ifn hq hf
      refine z_aload_n hc d_M_takesNumber_21 0 rfl ?_
      refine gf_M_158 hc d_M_takesNumber_22  ?_
      refine z_l2i hc d_M_takesNumber_25 ?_
      refine z_goto (tgt := 30) hc d_M_takesNumber_26 (by decide) ?_
      refine z_sub [0] (L' := [(0, .ref (gAd g (6, 0, 0)))]) rfl ?_
      exact sj_M_takesNumber_30 hc  ((σ5.2.1 6 0 0 0 : Int64).toInt32)   σ5 _ hf hρ
theorem vl_M_186 : VL R_M 186 y_M_takesNumber c_M_takesNumber 4 (some .int) 2 := ⟨tb5 206 (by decide +kernel) (by decide +kernel), tb5 208 (by decide +kernel) (by decide +kernel), tbp 39 (by decide +kernel), tb1 12 (by decide +kernel) (by decide +kernel), k_M_takesNumber, by decide, by decide, by decide +kernel, by decide⟩
theorem cz_M_186 {x : Cx} {g : Gv} {cc : ByteArray} {nL d pc : Nat} {ret : Option FieldType} {ρ : Option Value × Sg} {L : List (Nat × Value)} {st : List Value} {σ : Sg} (hc : Zc x g cc R_M nL ret d) (hd : decode cc pc = .ok (.invokevirtual 186, 3)) (hdd : 4 ≤ d) {x1 : Int32} {x2 : Int32} {v : Int32} {σ1 : Sg} (hf : f_M_takesNumber x1 x2 σ = some (v, σ1)) (hst : (st.map (fun v => v.category)).sum ≤ 8) (k : Z x g nL ρ (pc + 3) L (.int v :: st) σ1) : Z x g nL ρ pc L (.int x2 :: .int x1 :: .ref (gAd g (6, 0, 0)) :: st) σ := z_callV (ci := 11) (As := [.int x1, .int x2]) hc hd vl_M_186 hdd (6, 0, 0) (dm_M) rfl rfl (ok_M_takesNumber g x1 x2 σ (v, σ1) hf) rfl rfl hst rfl k
theorem vl_M_189 : VL R_M 189 y_M_wordOf c_M_wordOf 7 (some .int) 1 := ⟨tb5 198 (by decide +kernel) (by decide +kernel), tb5 200 (by decide +kernel) (by decide +kernel), tbp 37 (by decide +kernel), tb1 12 (by decide +kernel) (by decide +kernel), k_M_wordOf, by decide, by decide, by decide +kernel, by decide⟩
theorem cz_M_189 {x : Cx} {g : Gv} {cc : ByteArray} {nL d pc : Nat} {ret : Option FieldType} {ρ : Option Value × Sg} {L : List (Nat × Value)} {st : List Value} {σ : Sg} (hc : Zc x g cc R_M nL ret d) (hd : decode cc pc = .ok (.invokevirtual 189, 3)) (hdd : 1 ≤ d) {w1 : Nat} (hv1 : w1 < 3) {v : Int32} {σ1 : Sg} (hf : f_M_wordOf w1 σ = some (v, σ1)) (hst : (st.map (fun v => v.category)).sum ≤ 8) (k : Z x g nL ρ (pc + 3) L (.int v :: st) σ1) : Z x g nL ρ pc L (.ref (gAd g (25, w1, 0)) :: .ref (gAd g (6, 0, 0)) :: st) σ := z_callV (ci := 11) (As := [.ref (gAd g (25, w1, 0))]) hc hd vl_M_189 hdd (6, 0, 0) (dm_M) rfl rfl (ok_M_wordOf g w1 hv1 σ (v, σ1) hf) rfl rfl hst rfl k
def j_M_readsCarpet_103 (x3 : Int32) (x4 : Int32) (xs0 : Int32) (xs1 : Int32) (σ : Sg) : Option ((Int32 × Sg) ⊕ ((Sg) ⊕ (Sg))) :=
  b2 (f_M_takesNumber xs1 xs0 σ) (fun v20 σ21 => (if (iI 0) ≤ v20 then (if x4 = (iI 2) then b2 (f_M_rollsOut x3 v20 σ21) (fun v26 σ27 => some (.inl (x4 + (iI 1), σ27))) else b2 (f_M_puts x3 ((iI 2) + x4) v20 σ21) (fun v23 σ24 => some (.inl (x4 + (iI 1), σ24)))) else some (.inr (.inl σ21))))
theorem sj_M_readsCarpet_103 {x : Cx} {g : Gv} {ρ : Option Value × Sg} (hc : Zc x g c_M_readsCarpet R_M 6 (some .boolean) 4) (x3 : Int32) (x4 : Int32) (xs0 : Int32) (xs1 : Int32) (σ : Sg) (r : (Int32 × Sg) ⊕ ((Sg) ⊕ (Sg))) (hf : j_M_readsCarpet_103 x3 x4 xs0 xs1 σ = some r) (hi : ∀ a', r = .inl a' → Z x g 6 ρ 46 [(0, .ref (gAd g (6, 0, 0))), (3, .int x3), (4, .int a'.1)] [] a'.2) (he0 : ∀ b, r = .inr (.inl b) → Z x g 6 ρ 113 [] [] b) (he1 : ∀ b, r = .inr (.inr b) → Z x g 6 ρ 148 [] [] b) : Z x g 6 ρ 103 [(0, .ref (gAd g (6, 0, 0))), (3, .int x3), (4, .int x4)] [.int xs0, .int xs1, .ref (gAd g (6, 0, 0))] σ := by
  unfold j_M_readsCarpet_103 at hf
  obtain ⟨v20, σ21, h22, hf⟩ := bd2 hf
  refine cz_M_186 hc d_M_readsCarpet_103 (by decide)  h22 (Nat.le_of_ble_eq_true rfl) ?_
  refine z_istore (L' := [(5, .int v20), (0, .ref (gAd g (6, 0, 0))), (3, .int x3), (4, .int x4)]) hc d_M_readsCarpet_106 (by decide) rfl ?_
  refine z_iload hc d_M_readsCarpet_108 0 rfl ?_
  refine z_if_ge (tgt := 115) hc d_M_readsCarpet_110 (by decide) (fun hq => ?_) (fun hq => ?_)
  · have hf := ifp hq hf
    refine z_iload hc d_M_readsCarpet_115 3 rfl ?_
    refine z_iconst (v := (iI 2)) hc d_M_readsCarpet_117 (by decide) ?_
    refine z_icmp_ne (tgt := 131) hc d_M_readsCarpet_118 (by decide) (fun hq => ?_) (fun hq => ?_)
    · have hf := ifn hq hf
      refine z_aload_n hc d_M_readsCarpet_131 1 rfl ?_
      refine z_iload_n hc d_M_readsCarpet_132 2 rfl ?_
      refine z_iconst (v := (iI 2)) hc d_M_readsCarpet_133 (by decide) ?_
      refine z_iload hc d_M_readsCarpet_134 3 rfl ?_
      refine z_iadd hc d_M_readsCarpet_136 ?_
      refine z_iload hc d_M_readsCarpet_137 0 rfl ?_
      obtain ⟨v23, σ24, h25, hf⟩ := bd2 hf
      refine cz_M_78 hc d_M_readsCarpet_139 (by decide)  h25 (Nat.le_of_ble_eq_true rfl) ?_
      refine z_iinc (v := x4 + (iI 1)) (L' := [(4, .int (x4 + (iI 1))), (5, .int v20), (0, .ref (gAd g (6, 0, 0))), (3, .int x3)]) hc d_M_readsCarpet_142 3 rfl rfl (by decide) rfl ?_
      refine z_goto (tgt := 46) hc d_M_readsCarpet_145 (by decide) ?_
      refine z_sub [2, 3, 0] (L' := [(0, .ref (gAd g (6, 0, 0))), (3, .int x3), (4, .int (x4 + (iI 1)))]) rfl ?_
      exact hi (x4 + (iI 1), σ24) (Option.some.inj hf).symm
    · have hf := ifp hq hf
      refine z_aload_n hc d_M_readsCarpet_121 1 rfl ?_
      refine z_iload_n hc d_M_readsCarpet_122 2 rfl ?_
      refine z_iload hc d_M_readsCarpet_123 0 rfl ?_
      obtain ⟨v26, σ27, h28, hf⟩ := bd2 hf
      refine cz_M_120 hc d_M_readsCarpet_125 (by decide)  h28 (Nat.le_of_ble_eq_true rfl) ?_
      refine z_goto (tgt := 142) hc d_M_readsCarpet_128 (by decide) ?_
      refine z_iinc (v := x4 + (iI 1)) (L' := [(4, .int (x4 + (iI 1))), (5, .int v20), (0, .ref (gAd g (6, 0, 0))), (3, .int x3)]) hc d_M_readsCarpet_142 3 rfl rfl (by decide) rfl ?_
      refine z_goto (tgt := 46) hc d_M_readsCarpet_145 (by decide) ?_
      refine z_sub [2, 3, 0] (L' := [(0, .ref (gAd g (6, 0, 0))), (3, .int x3), (4, .int (x4 + (iI 1)))]) rfl ?_
      exact hi (x4 + (iI 1), σ27) (Option.some.inj hf).symm
  · have hf := ifn hq hf
    refine z_sub [] (L' := []) rfl ?_
    exact he0 σ21 (Option.some.inj hf).symm
def j_M_readsCarpet_80 (x3 : Int32) (x4 : Int32) (xs0 : Int32) (σ : Sg) : Option ((Int32 × Sg) ⊕ ((Sg) ⊕ (Sg))) :=
  (if x4 = (iI 0) then j_M_readsCarpet_103 x3 x4 (iI 20) xs0 σ else (if x4 = (iI 1) then j_M_readsCarpet_103 x3 x4 (iI 99) xs0 σ else j_M_readsCarpet_103 x3 x4 (iI 39) xs0 σ))
theorem sj_M_readsCarpet_80 {x : Cx} {g : Gv} {ρ : Option Value × Sg} (hc : Zc x g c_M_readsCarpet R_M 6 (some .boolean) 4) (x3 : Int32) (x4 : Int32) (xs0 : Int32) (σ : Sg) (r : (Int32 × Sg) ⊕ ((Sg) ⊕ (Sg))) (hf : j_M_readsCarpet_80 x3 x4 xs0 σ = some r) (hi : ∀ a', r = .inl a' → Z x g 6 ρ 46 [(0, .ref (gAd g (6, 0, 0))), (3, .int x3), (4, .int a'.1)] [] a'.2) (he0 : ∀ b, r = .inr (.inl b) → Z x g 6 ρ 113 [] [] b) (he1 : ∀ b, r = .inr (.inr b) → Z x g 6 ρ 148 [] [] b) : Z x g 6 ρ 80 [(0, .ref (gAd g (6, 0, 0))), (3, .int x3), (4, .int x4)] [.int xs0, .ref (gAd g (6, 0, 0))] σ := by
  unfold j_M_readsCarpet_80 at hf
  refine z_iload hc d_M_readsCarpet_80 2 rfl ?_
  refine z_if_ne (tgt := 90) hc d_M_readsCarpet_82 (by decide) (fun hq => ?_) (fun hq => ?_)
  · have hf := ifn hq hf
    refine z_iload hc d_M_readsCarpet_90 2 rfl ?_
    refine z_iconst (v := (iI 1)) hc d_M_readsCarpet_92 (by decide) ?_
    refine z_icmp_ne (tgt := 101) hc d_M_readsCarpet_93 (by decide) (fun hq => ?_) (fun hq => ?_)
    · have hf := ifn hq hf
      refine z_bipush (v := (iI 39)) hc d_M_readsCarpet_101 (by decide) ?_
      refine z_sub [0, 1, 2] (L' := [(0, .ref (gAd g (6, 0, 0))), (3, .int x3), (4, .int x4)]) rfl ?_
      exact sj_M_readsCarpet_103 hc x3 x4 (iI 39) xs0   σ _ hf hi he0 he1
    · have hf := ifp hq hf
      refine z_bipush (v := (iI 99)) hc d_M_readsCarpet_96 (by decide) ?_
      refine z_goto (tgt := 103) hc d_M_readsCarpet_98 (by decide) ?_
      refine z_sub [0, 1, 2] (L' := [(0, .ref (gAd g (6, 0, 0))), (3, .int x3), (4, .int x4)]) rfl ?_
      exact sj_M_readsCarpet_103 hc x3 x4 (iI 99) xs0   σ _ hf hi he0 he1
  · have hf := ifp hq hf
    refine z_bipush (v := (iI 20)) hc d_M_readsCarpet_85 (by decide) ?_
    refine z_goto (tgt := 103) hc d_M_readsCarpet_87 (by decide) ?_
    refine z_sub [0, 1, 2] (L' := [(0, .ref (gAd g (6, 0, 0))), (3, .int x3), (4, .int x4)]) rfl ?_
    exact sj_M_readsCarpet_103 hc x3 x4 (iI 20) xs0   σ _ hf hi he0 he1
def b_M_readsCarpet_46 (x3 : Int32) (x4 : Int32) (σ : Sg) : Option ((Int32 × Sg) ⊕ ((Sg) ⊕ (Sg))) :=
  (if (iI 3) ≤ x4 then some (.inr (.inr σ)) else b2 (f_M_wordOf 1 σ) (fun v14 σ15 => (if v14 = x4 then b2 (f_M_nextToken  σ15) (fun v17 σ18 => (if x4 = (iI 0) then j_M_readsCarpet_80 x3 x4 (iI 1) σ18 else j_M_readsCarpet_80 x3 x4 (iI 0) σ18)) else some (.inl (x4 + (iI 1), σ15)))))
theorem sb_M_readsCarpet_46 {x : Cx} {g : Gv} {ρ : Option Value × Sg} (hc : Zc x g c_M_readsCarpet R_M 6 (some .boolean) 4) (x3 : Int32) (x4 : Int32) (σ : Sg) (r : (Int32 × Sg) ⊕ ((Sg) ⊕ (Sg))) (hf : b_M_readsCarpet_46 x3 x4 σ = some r) (hi : ∀ a', r = .inl a' → Z x g 6 ρ 46 [(0, .ref (gAd g (6, 0, 0))), (3, .int x3), (4, .int a'.1)] [] a'.2) (he0 : ∀ b, r = .inr (.inl b) → Z x g 6 ρ 113 [] [] b) (he1 : ∀ b, r = .inr (.inr b) → Z x g 6 ρ 148 [] [] b) : Z x g 6 ρ 46 [(0, .ref (gAd g (6, 0, 0))), (3, .int x3), (4, .int x4)] [] σ := by
  unfold b_M_readsCarpet_46 at hf
  refine z_iload hc d_M_readsCarpet_46 2 rfl ?_
  refine z_iconst (v := (iI 3)) hc d_M_readsCarpet_48 (by decide) ?_
  refine z_icmp_ge (tgt := 148) hc d_M_readsCarpet_49 (by decide) (fun hq => ?_) (fun hq => ?_)
  · have hf := ifp hq hf
    refine z_sub [] (L' := []) rfl ?_
    exact he1 σ (Option.some.inj hf).symm
  · have hf := ifn hq hf
    refine z_aload_n hc d_M_readsCarpet_52 0 rfl ?_
    refine z_aload_n hc d_M_readsCarpet_53 0 rfl ?_
    refine gf_M_29 hc d_M_readsCarpet_54  ?_
    obtain ⟨v14, σ15, h16, hf⟩ := bd2 hf
    refine cz_M_189 hc d_M_readsCarpet_57 (by decide) (by decide) h16 (Nat.le_of_ble_eq_true rfl) ?_
    refine z_iload hc d_M_readsCarpet_60 2 rfl ?_
    refine z_icmp_ne (tgt := 142) hc d_M_readsCarpet_62 (by decide) (fun hq => ?_) (fun hq => ?_)
    · have hf := ifn hq hf
      refine z_iinc (v := x4 + (iI 1)) (L' := [(4, .int (x4 + (iI 1))), (0, .ref (gAd g (6, 0, 0))), (3, .int x3)]) hc d_M_readsCarpet_142 2 rfl rfl (by decide) rfl ?_
      refine z_goto (tgt := 46) hc d_M_readsCarpet_145 (by decide) ?_
      refine z_sub [1, 2, 0] (L' := [(0, .ref (gAd g (6, 0, 0))), (3, .int x3), (4, .int (x4 + (iI 1)))]) rfl ?_
      exact hi (x4 + (iI 1), σ15) (Option.some.inj hf).symm
    · have hf := ifp hq hf
      refine z_aload_n hc d_M_readsCarpet_65 0 rfl ?_
      obtain ⟨v17, σ18, h19, hf⟩ := bd2 hf
      refine cz_M_183 hc d_M_readsCarpet_66 (by decide)  h19 (Nat.le_of_ble_eq_true rfl) ?_
      refine z_aload_n hc d_M_readsCarpet_69 0 rfl ?_
      refine z_iload hc d_M_readsCarpet_70 2 rfl ?_
      refine z_if_ne (tgt := 79) hc d_M_readsCarpet_72 (by decide) (fun hq => ?_) (fun hq => ?_)
      · have hf := ifn hq hf
        refine z_iconst (v := (iI 0)) hc d_M_readsCarpet_79 (by decide) ?_
        refine z_sub [0, 1, 2] (L' := [(0, .ref (gAd g (6, 0, 0))), (3, .int x3), (4, .int x4)]) rfl ?_
        exact sj_M_readsCarpet_80 hc x3 x4 (iI 0)   σ18 _ hf hi he0 he1
      · have hf := ifp hq hf
        refine z_iconst (v := (iI 1)) hc d_M_readsCarpet_75 (by decide) ?_
        refine z_goto (tgt := 80) hc d_M_readsCarpet_76 (by decide) ?_
        refine z_sub [0, 1, 2] (L' := [(0, .ref (gAd g (6, 0, 0))), (3, .int x3), (4, .int x4)]) rfl ?_
        exact sj_M_readsCarpet_80 hc x3 x4 (iI 1)   σ18 _ hf hi he0 he1
def f_M_readsCarpet (x1 : Int32) (σ : Sg) : Option (Int32 × Sg) :=
  Option.bind (rd (iI 2) 66) (fun j1 => (if (σ.1 20 0 0 j1) = (iI 8) then some ((iI 0), σ) else b2 (f_M_nextToken  σ) (fun v3 σ4 => b2 (f_M_takesNumber (iI 0) (iI 3) σ4) (fun v6 σ7 => (if (iI 0) ≤ v6 then Option.bind (rd (iI 2) 66) (fun j9 => b2 (f_M_addsCarpet x1 v6 σ7) (fun v11 σ12 => Option.bind (lp (fun a => b_M_readsCarpet_46 (σ7.1 20 0 0 j9) a.1 a.2) FU ((iI 0), σ12)) (fun z => Sum.elim (fun b32 => some ((iI 0), b32)) (fun b33 => some ((iI 1), b33)) z))) else some ((iI 0), σ7))))))
theorem ok_M_readsCarpet (g : Gv) (x1 : Int32) (σ : Sg) (r : Int32 × Sg) (hf : f_M_readsCarpet x1 σ = some r) : Ok g y_M_readsCarpet c_M_readsCarpet 6 (some .boolean) 4 [.ref (gAd g (6, 0, 0)), .int x1] σ (some (.int r.1), r.2) := by
  unfold f_M_readsCarpet at hf
  refine Ok.of [(0, .ref (gAd g (6, 0, 0))), (1, .int x1)] (by decide) (Nat.le_of_ble_eq_true rfl) rfl ?_
  intro x hc
  have hc : Zc x g c_M_readsCarpet R_M 6 (some .boolean) 4 := hc
  obtain ⟨ρ, hρ⟩ : ∃ ρ : Option Value × Sg, ρ = (some (.int r.1), r.2) := ⟨_, rfl⟩
  rw [← hρ]
  refine z_aload_n hc d_M_readsCarpet_0 0 rfl ?_
  refine gf_M_9 hc d_M_readsCarpet_1  ?_
  refine z_iconst (v := (iI 2)) hc d_M_readsCarpet_4 (by decide) ?_
  obtain ⟨j1, hj2, hf⟩ := bd hf
  refine ald_ms hc d_M_readsCarpet_5  hj2 ?_
  refine z_bipush (v := (iI 8)) hc d_M_readsCarpet_6 (by decide) ?_
  refine z_icmp_ne (tgt := 13) hc d_M_readsCarpet_8 (by decide) (fun hq => ?_) (fun hq => ?_)
  · have hf := ifn hq hf
    refine z_aload_n hc d_M_readsCarpet_13 0 rfl ?_
    obtain ⟨v3, σ4, h5, hf⟩ := bd2 hf
    refine cz_M_183 hc d_M_readsCarpet_14 (by decide)  h5 (Nat.le_of_ble_eq_true rfl) ?_
    refine z_aload_n hc d_M_readsCarpet_17 0 rfl ?_
    refine z_iconst (v := (iI 0)) hc d_M_readsCarpet_18 (by decide) ?_
    refine z_iconst (v := (iI 3)) hc d_M_readsCarpet_19 (by decide) ?_
    obtain ⟨v6, σ7, h8, hf⟩ := bd2 hf
    refine cz_M_186 hc d_M_readsCarpet_20 (by decide)  h8 (Nat.le_of_ble_eq_true rfl) ?_
    refine z_istore_n (L' := [(2, .int v6), (0, .ref (gAd g (6, 0, 0))), (1, .int x1)]) hc d_M_readsCarpet_23 (by decide) rfl ?_
    refine z_iload_n hc d_M_readsCarpet_24 0 rfl ?_
    refine z_if_ge (tgt := 30) hc d_M_readsCarpet_25 (by decide) (fun hq => ?_) (fun hq => ?_)
    · have hf := ifp hq hf
      refine z_aload_n hc d_M_readsCarpet_30 1 rfl ?_
      refine gf_M_9 hc d_M_readsCarpet_31  ?_
      refine z_iconst (v := (iI 2)) hc d_M_readsCarpet_34 (by decide) ?_
      obtain ⟨j9, hj10, hf⟩ := bd hf
      refine ald_ms hc d_M_readsCarpet_35  hj10 ?_
      refine z_istore_n (L' := [(3, .int (σ7.1 20 0 0 j9)), (2, .int v6), (0, .ref (gAd g (6, 0, 0))), (1, .int x1)]) hc d_M_readsCarpet_36 (by decide) rfl ?_
      refine z_aload_n hc d_M_readsCarpet_37 2 rfl ?_
      refine z_iload_n hc d_M_readsCarpet_38 3 rfl ?_
      refine z_iload_n hc d_M_readsCarpet_39 1 rfl ?_
      obtain ⟨v11, σ12, h13, hf⟩ := bd2 hf
      refine cz_M_109 hc d_M_readsCarpet_40 (by decide)  h13 (Nat.le_of_ble_eq_true rfl) ?_
      refine z_iconst (v := (iI 0)) hc d_M_readsCarpet_43 (by decide) ?_
      refine z_istore (L' := [(4, .int (iI 0)), (3, .int (σ7.1 20 0 0 j9)), (2, .int v6), (0, .ref (gAd g (6, 0, 0))), (1, .int x1)]) hc d_M_readsCarpet_44 (by decide) rfl ?_
      refine z_sub [3, 1, 0] (L' := [(0, .ref (gAd g (6, 0, 0))), (3, .int (σ7.1 20 0 0 j9)), (4, .int (iI 0))]) rfl ?_
      obtain ⟨q29, hl34, hf⟩ := bd hf
      refine lp_walk (α := (Int32 × Sg)) (β := ((Sg) ⊕ (Sg))) (body := (fun a : (Int32 × Sg) => b_M_readsCarpet_46 (σ7.1 20 0 0 j9) a.1 a.2)) (In := (fun a : (Int32 × Sg) => Z x g 6 ρ 46 [(0, .ref (gAd g (6, 0, 0))), (3, .int (σ7.1 20 0 0 j9)), (4, .int a.1)] [] a.2)) (Out := (Sum.elim (fun b => Z x g 6 ρ 113 [] [] b) (fun b => Z x g 6 ρ 148 [] [] b))) (fun a r hb hi ho => sb_M_readsCarpet_46 hc (σ7.1 20 0 0 j9)  a.1 a.2 r hb hi (fun b e => ho _ e) (fun b e => ho _ e)) FU ((iI 0), σ12) _ hl34 ?_
      rcases q29 with σ30 | q29
      · try dsimp only [Sum.elim_inl, Sum.elim_inr] at hf
        try dsimp only [Sum.elim_inl, Sum.elim_inr]
        refine z_iconst (v := (iI 0)) hc d_M_readsCarpet_113 (by decide) ?_
        exact z_zret hc d_M_readsCarpet_114 (by decide) (rI hf hρ)
      try dsimp only [Sum.elim_inl, Sum.elim_inr] at hf
      try dsimp only [Sum.elim_inl, Sum.elim_inr]
      · obtain ⟨σ31, rfl⟩ : ∃ z, z = q29 := ⟨_, rfl⟩
        try dsimp only [Sum.elim_inl, Sum.elim_inr] at hf
        try dsimp only [Sum.elim_inl, Sum.elim_inr]
        refine z_iconst (v := (iI 1)) hc d_M_readsCarpet_148 (by decide) ?_
        exact z_zret hc d_M_readsCarpet_149 (by decide) (rI hf hρ)
    · have hf := ifn hq hf
      refine z_iconst (v := (iI 0)) hc d_M_readsCarpet_28 (by decide) ?_
      exact z_zret hc d_M_readsCarpet_29 (by decide) (rI hf hρ)
  · have hf := ifp hq hf
    refine z_iconst (v := (iI 0)) hc d_M_readsCarpet_11 (by decide) ?_
    exact z_zret hc d_M_readsCarpet_12 (by decide) (rI hf hρ)
def j_M_readsUp_19 (x1 : Int32) (σ : Sg) : Option (Int32 × Sg) :=
  (if x1 < (iI 0) then some ((iI 0), σ) else some ((iI 1), σ))
theorem sj_M_readsUp_19 {x : Cx} {g : Gv} {ρ : Option Value × Sg} (hc : Zc x g c_M_readsUp R_M 2 (some .boolean) 4) (x1 : Int32) (σ : Sg) (r : Int32 × Sg) (hf : j_M_readsUp_19 x1 σ = some r) (hρ : ρ = (some (.int r.1), r.2)) : Z x g 2 ρ 19 [(1, .int x1)] [] σ := by
  unfold j_M_readsUp_19 at hf
  refine z_iload_n hc d_M_readsUp_19 0 rfl ?_
  refine z_if_lt (tgt := 27) hc d_M_readsUp_20 (by decide) (fun hq => ?_) (fun hq => ?_)
  · have hf := ifp hq hf
    refine z_iconst (v := (iI 0)) hc d_M_readsUp_27 (by decide) ?_
    exact z_zret hc d_M_readsUp_28 (by decide) (rI hf hρ)
  · have hf := ifn hq hf
    refine z_iconst (v := (iI 1)) hc d_M_readsUp_23 (by decide) ?_
    refine z_goto (tgt := 28) hc d_M_readsUp_24 (by decide) ?_
    exact z_zret hc d_M_readsUp_28 (by decide) (rI hf hρ)
def f_M_readsUp (σ : Sg) : Option (Int32 × Sg) :=
  b2 (f_M_takesNumber (iI 0) (iI 7) σ) (fun v1 σ2 => (if v1 < (iI 0) then j_M_readsUp_19 v1  σ2 else b2 (f_M_puts v1 (iI 5) (iI (-1)) σ2) (fun v4 σ5 => j_M_readsUp_19 v1  σ5)))
theorem ok_M_readsUp (g : Gv) (σ : Sg) (r : Int32 × Sg) (hf : f_M_readsUp σ = some r) : Ok g y_M_readsUp c_M_readsUp 2 (some .boolean) 4 [.ref (gAd g (6, 0, 0))] σ (some (.int r.1), r.2) := by
  unfold f_M_readsUp at hf
  refine Ok.of [(0, .ref (gAd g (6, 0, 0)))] (by decide) (Nat.le_of_ble_eq_true rfl) rfl ?_
  intro x hc
  have hc : Zc x g c_M_readsUp R_M 2 (some .boolean) 4 := hc
  obtain ⟨ρ, hρ⟩ : ∃ ρ : Option Value × Sg, ρ = (some (.int r.1), r.2) := ⟨_, rfl⟩
  rw [← hρ]
  refine z_aload_n hc d_M_readsUp_0 0 rfl ?_
  refine z_iconst (v := (iI 0)) hc d_M_readsUp_1 (by decide) ?_
  refine z_bipush (v := (iI 7)) hc d_M_readsUp_2 (by decide) ?_
  obtain ⟨v1, σ2, h3, hf⟩ := bd2 hf
  refine cz_M_186 hc d_M_readsUp_4 (by decide)  h3 (Nat.le_of_ble_eq_true rfl) ?_
  refine z_istore_n (L' := [(1, .int v1), (0, .ref (gAd g (6, 0, 0)))]) hc d_M_readsUp_7 (by decide) rfl ?_
  refine z_iload_n hc d_M_readsUp_8 0 rfl ?_
  refine z_if_lt (tgt := 19) hc d_M_readsUp_9 (by decide) (fun hq => ?_) (fun hq => ?_)
  · have hf := ifp hq hf
    refine z_sub [0] (L' := [(1, .int v1)]) rfl ?_
    exact sj_M_readsUp_19 hc v1    σ2 _ hf hρ
  · have hf := ifn hq hf
    refine z_aload_n hc d_M_readsUp_12 1 rfl ?_
    refine z_iload_n hc d_M_readsUp_13 0 rfl ?_
    refine z_iconst (v := (iI 5)) hc d_M_readsUp_14 (by decide) ?_
    refine z_iconst (v := (iI (-1))) hc d_M_readsUp_15 (by decide) ?_
    obtain ⟨v4, σ5, h6, hf⟩ := bd2 hf
    refine cz_M_78 hc d_M_readsUp_16 (by decide)  h6 (Nat.le_of_ble_eq_true rfl) ?_
    refine z_sub [0] (L' := [(1, .int v1)]) rfl ?_
    exact sj_M_readsUp_19 hc v1    σ5 _ hf hρ
def f_M_isUpTold (σ : Sg) : Option (Int32 × Sg) :=
  (if (σ.1 6 0 0 2) = (iI 2) then b2 (f_M_isCarpet ((σ.2.1 6 0 0 0 : Int64).toInt32) σ) (fun v1 σ2 => (if v1 = (iI 0) then some ((iI 0), σ2) else b2 (f_M_get ((σ2.2.1 6 0 0 0 : Int64).toInt32) (iI 5) σ2) (fun v4 σ5 => (if v4 < (iI 0) then some ((iI 0), σ5) else some ((iI 1), σ5))))) else some ((iI 0), σ))
theorem ok_M_isUpTold (g : Gv) (σ : Sg) (r : Int32 × Sg) (hf : f_M_isUpTold σ = some r) : Ok g y_M_isUpTold c_M_isUpTold 1 (some .boolean) 2 [.ref (gAd g (6, 0, 0))] σ (some (.int r.1), r.2) := by
  unfold f_M_isUpTold at hf
  refine Ok.of [(0, .ref (gAd g (6, 0, 0)))] (by decide) (Nat.le_of_ble_eq_true rfl) rfl ?_
  intro x hc
  have hc : Zc x g c_M_isUpTold R_M 1 (some .boolean) 2 := hc
  obtain ⟨ρ, hρ⟩ : ∃ ρ : Option Value × Sg, ρ = (some (.int r.1), r.2) := ⟨_, rfl⟩
  rw [← hρ]
  refine z_aload_n hc d_M_isUpTold_0 0 rfl ?_
  refine gf_M_162 hc d_M_isUpTold_1  ?_
  refine z_iconst (v := (iI 2)) hc d_M_isUpTold_4 (by decide) ?_
  refine z_icmp_ne (tgt := 37) hc d_M_isUpTold_5 (by decide) (fun hq => ?_) (fun hq => ?_)
  · have hf := ifn hq hf
    refine z_iconst (v := (iI 0)) hc d_M_isUpTold_37 (by decide) ?_
    exact z_zret hc d_M_isUpTold_38 (by decide) (rI hf hρ)
  · have hf := ifp hq hf
    refine z_aload_n hc d_M_isUpTold_8 0 rfl ?_
    refine z_aload_n hc d_M_isUpTold_9 0 rfl ?_
    refine gf_M_158 hc d_M_isUpTold_10  ?_
    refine z_l2i hc d_M_isUpTold_13 ?_
    obtain ⟨v1, σ2, h3, hf⟩ := bd2 hf
    refine cz_M_113 hc d_M_isUpTold_14 (by decide)  h3 (Nat.le_of_ble_eq_true rfl) ?_
    refine z_if_eq (tgt := 37) hc d_M_isUpTold_17 (by decide) (fun hq => ?_) (fun hq => ?_)
    · have hf := ifp hq hf
      refine z_iconst (v := (iI 0)) hc d_M_isUpTold_37 (by decide) ?_
      exact z_zret hc d_M_isUpTold_38 (by decide) (rI hf hρ)
    · have hf := ifn hq hf
      refine z_aload_n hc d_M_isUpTold_20 0 rfl ?_
      refine z_aload_n hc d_M_isUpTold_21 0 rfl ?_
      refine gf_M_158 hc d_M_isUpTold_22  ?_
      refine z_l2i hc d_M_isUpTold_25 ?_
      refine z_iconst (v := (iI 5)) hc d_M_isUpTold_26 (by decide) ?_
      obtain ⟨v4, σ5, h6, hf⟩ := bd2 hf
      refine cz_M_53 hc d_M_isUpTold_27 (by decide)  h6 (Nat.le_of_ble_eq_true rfl) ?_
      refine z_if_lt (tgt := 37) hc d_M_isUpTold_30 (by decide) (fun hq => ?_) (fun hq => ?_)
      · have hf := ifp hq hf
        refine z_iconst (v := (iI 0)) hc d_M_isUpTold_37 (by decide) ?_
        exact z_zret hc d_M_isUpTold_38 (by decide) (rI hf hρ)
      · have hf := ifn hq hf
        refine z_iconst (v := (iI 1)) hc d_M_isUpTold_33 (by decide) ?_
        refine z_goto (tgt := 38) hc d_M_isUpTold_34 (by decide) ?_
        exact z_zret hc d_M_isUpTold_38 (by decide) (rI hf hρ)
theorem vl_M_196 : VL R_M 196 y_M_isUpTold c_M_isUpTold 1 (some .boolean) 0 := ⟨tb5 210 (by decide +kernel) (by decide +kernel), tb5 212 (by decide +kernel) (by decide +kernel), tbp 40 (by decide +kernel), tb1 12 (by decide +kernel) (by decide +kernel), k_M_isUpTold, by decide, by decide, by decide +kernel, by decide⟩
theorem cz_M_196 {x : Cx} {g : Gv} {cc : ByteArray} {nL d pc : Nat} {ret : Option FieldType} {ρ : Option Value × Sg} {L : List (Nat × Value)} {st : List Value} {σ : Sg} (hc : Zc x g cc R_M nL ret d) (hd : decode cc pc = .ok (.invokevirtual 196, 3)) (hdd : 3 ≤ d) {v : Int32} {σ1 : Sg} (hf : f_M_isUpTold σ = some (v, σ1)) (hst : (st.map (fun v => v.category)).sum ≤ 8) (k : Z x g nL ρ (pc + 3) L (.int v :: st) σ1) : Z x g nL ρ pc L (.ref (gAd g (6, 0, 0)) :: st) σ := z_callV (ci := 11) (As := []) hc hd vl_M_196 hdd (6, 0, 0) (dm_M) rfl rfl (ok_M_isUpTold g σ (v, σ1) hf) rfl rfl hst rfl k
theorem vl_M_199 : VL R_M 199 y_M_readsUp c_M_readsUp 2 (some .boolean) 0 := ⟨tb5 214 (by decide +kernel) (by decide +kernel), tb5 216 (by decide +kernel) (by decide +kernel), tbp 41 (by decide +kernel), tb1 12 (by decide +kernel) (by decide +kernel), k_M_readsUp, by decide, by decide, by decide +kernel, by decide⟩
theorem cz_M_199 {x : Cx} {g : Gv} {cc : ByteArray} {nL d pc : Nat} {ret : Option FieldType} {ρ : Option Value × Sg} {L : List (Nat × Value)} {st : List Value} {σ : Sg} (hc : Zc x g cc R_M nL ret d) (hd : decode cc pc = .ok (.invokevirtual 199, 3)) (hdd : 5 ≤ d) {v : Int32} {σ1 : Sg} (hf : f_M_readsUp σ = some (v, σ1)) (hst : (st.map (fun v => v.category)).sum ≤ 8) (k : Z x g nL ρ (pc + 3) L (.int v :: st) σ1) : Z x g nL ρ pc L (.ref (gAd g (6, 0, 0)) :: st) σ := z_callV (ci := 11) (As := []) hc hd vl_M_199 hdd (6, 0, 0) (dm_M) rfl rfl (ok_M_readsUp g σ (v, σ1) hf) rfl rfl hst rfl k
theorem vl_M_193 : VL R_M 193 y_M_readsCarpet c_M_readsCarpet 6 (some .boolean) 1 := ⟨tb5 202 (by decide +kernel) (by decide +kernel), tb5 204 (by decide +kernel) (by decide +kernel), tbp 38 (by decide +kernel), tb1 12 (by decide +kernel) (by decide +kernel), k_M_readsCarpet, by decide, by decide, by decide +kernel, by decide⟩
theorem cz_M_193 {x : Cx} {g : Gv} {cc : ByteArray} {nL d pc : Nat} {ret : Option FieldType} {ρ : Option Value × Sg} {L : List (Nat × Value)} {st : List Value} {σ : Sg} (hc : Zc x g cc R_M nL ret d) (hd : decode cc pc = .ok (.invokevirtual 193, 3)) (hdd : 5 ≤ d) {x1 : Int32} {v : Int32} {σ1 : Sg} (hf : f_M_readsCarpet x1 σ = some (v, σ1)) (hst : (st.map (fun v => v.category)).sum ≤ 8) (k : Z x g nL ρ (pc + 3) L (.int v :: st) σ1) : Z x g nL ρ pc L (.int x1 :: .ref (gAd g (6, 0, 0)) :: st) σ := z_callV (ci := 11) (As := [.int x1]) hc hd vl_M_193 hdd (6, 0, 0) (dm_M) rfl rfl (ok_M_readsCarpet g x1 σ (v, σ1) hf) rfl rfl hst rfl k
def j_M_readsItem_92 (x3 : Int32) (σ : Sg) : Option (Int32 × Sg) :=
  (if x3 < (iI 0) then some ((iI 0), σ) else some ((iI 1), σ))
theorem sj_M_readsItem_92 {x : Cx} {g : Gv} {ρ : Option Value × Sg} (hc : Zc x g c_M_readsItem R_M 4 (some .boolean) 5) (x3 : Int32) (σ : Sg) (r : Int32 × Sg) (hf : j_M_readsItem_92 x3 σ = some r) (hρ : ρ = (some (.int r.1), r.2)) : Z x g 4 ρ 92 [(3, .int x3)] [] σ := by
  unfold j_M_readsItem_92 at hf
  refine z_iload_n hc d_M_readsItem_92 0 rfl ?_
  refine z_if_lt (tgt := 100) hc d_M_readsItem_93 (by decide) (fun hq => ?_) (fun hq => ?_)
  · have hf := ifp hq hf
    refine z_iconst (v := (iI 0)) hc d_M_readsItem_100 (by decide) ?_
    exact z_zret hc d_M_readsItem_101 (by decide) (rI hf hρ)
  · have hf := ifn hq hf
    refine z_iconst (v := (iI 1)) hc d_M_readsItem_96 (by decide) ?_
    refine z_goto (tgt := 101) hc d_M_readsItem_97 (by decide) ?_
    exact z_zret hc d_M_readsItem_101 (by decide) (rI hf hρ)
def j_M_readsItem_91 (x3 : Int32) (xs0 : Int32) (xs1 : Int32) (σ : Sg) : Option (Int32 × Sg) :=
  Option.bind (rd xs1 66) (fun j13 => j_M_readsItem_92 x3  (upI σ 20 0 0 j13 xs0))
theorem sj_M_readsItem_91 {x : Cx} {g : Gv} {ρ : Option Value × Sg} (hc : Zc x g c_M_readsItem R_M 4 (some .boolean) 5) (x3 : Int32) (xs0 : Int32) (xs1 : Int32) (σ : Sg) (r : Int32 × Sg) (hf : j_M_readsItem_91 x3 xs0 xs1 σ = some r) (hρ : ρ = (some (.int r.1), r.2)) : Z x g 4 ρ 91 [(3, .int x3)] [.int xs0, .int xs1, .ref (gAd g (20, 0, 0))] σ := by
  unfold j_M_readsItem_91 at hf
  obtain ⟨j13, hj14, hf⟩ := bd hf
  refine ast_ms hc d_M_readsItem_91  hj14 ?_
  refine z_sub [0] (L' := [(3, .int x3)]) rfl ?_
  exact sj_M_readsItem_92 hc x3    (upI σ 20 0 0 j13 xs0) _ hf hρ
def f_M_readsItem (σ : Sg) : Option (Int32 × Sg) :=
  b2 (f_M_wordOf 0 σ) (fun v1 σ2 => (if v1 < (iI 0) then b2 (f_M_wordOf 2 σ2) (fun v4 σ5 => (if (iI 0) ≤ v4 then b2 (f_M_nextToken  σ5) (fun v7 σ8 => (if v4 = (iI 0) then b2 (f_M_isUpTold  σ8) (fun v15 σ16 => (if v15 = (iI 0) then some ((iI 0), σ16) else b2 (f_M_readsUp  σ16) (fun v18 σ19 => (if v18 = (iI 0) then some ((iI 0), σ19) else some ((iI 1), σ19))))) else b2 (f_M_takesNumber (iI 0) (iI 6) σ8) (fun v10 σ11 => (if v10 < (iI 0) then j_M_readsItem_92 v10  σ11 else (if v4 = (iI 1) then j_M_readsItem_91 v10 (iI 1) ((iI 3) + v10) σ11 else j_M_readsItem_91 v10 (iI 0) ((iI 3) + v10) σ11))))) else some ((iI 0), σ5))) else b2 (f_M_readsCarpet v1 σ2) (fun v21 σ22 => Option.bind (bo v21) (fun r24 => some (r24, σ22)))))
theorem ok_M_readsItem (g : Gv) (σ : Sg) (r : Int32 × Sg) (hf : f_M_readsItem σ = some r) : Ok g y_M_readsItem c_M_readsItem 4 (some .boolean) 5 [.ref (gAd g (6, 0, 0))] σ (some (.int r.1), r.2) := by
  unfold f_M_readsItem at hf
  refine Ok.of [(0, .ref (gAd g (6, 0, 0)))] (by decide) (Nat.le_of_ble_eq_true rfl) rfl ?_
  intro x hc
  have hc : Zc x g c_M_readsItem R_M 4 (some .boolean) 5 := hc
  obtain ⟨ρ, hρ⟩ : ∃ ρ : Option Value × Sg, ρ = (some (.int r.1), r.2) := ⟨_, rfl⟩
  rw [← hρ]
  refine z_aload_n hc d_M_readsItem_0 0 rfl ?_
  refine z_aload_n hc d_M_readsItem_1 0 rfl ?_
  refine gf_M_25 hc d_M_readsItem_2  ?_
  obtain ⟨v1, σ2, h3, hf⟩ := bd2 hf
  refine cz_M_189 hc d_M_readsItem_5 (by decide) (by decide) h3 (Nat.le_of_ble_eq_true rfl) ?_
  refine z_istore_n (L' := [(1, .int v1), (0, .ref (gAd g (6, 0, 0)))]) hc d_M_readsItem_8 (by decide) rfl ?_
  refine z_iload_n hc d_M_readsItem_9 0 rfl ?_
  refine z_if_lt (tgt := 19) hc d_M_readsItem_10 (by decide) (fun hq => ?_) (fun hq => ?_)
  · have hf := ifp hq hf
    refine z_aload_n hc d_M_readsItem_19 1 rfl ?_
    refine z_aload_n hc d_M_readsItem_20 1 rfl ?_
    refine gf_M_32 hc d_M_readsItem_21  ?_
    obtain ⟨v4, σ5, h6, hf⟩ := bd2 hf
    refine cz_M_189 hc d_M_readsItem_24 (by decide) (by decide) h6 (Nat.le_of_ble_eq_true rfl) ?_
    refine z_istore_n (L' := [(2, .int v4), (1, .int v1), (0, .ref (gAd g (6, 0, 0)))]) hc d_M_readsItem_27 (by decide) rfl ?_
    refine z_iload_n hc d_M_readsItem_28 0 rfl ?_
    refine z_if_ge (tgt := 34) hc d_M_readsItem_29 (by decide) (fun hq => ?_) (fun hq => ?_)
    · have hf := ifp hq hf
      refine z_aload_n hc d_M_readsItem_34 2 rfl ?_
      obtain ⟨v7, σ8, h9, hf⟩ := bd2 hf
      refine cz_M_183 hc d_M_readsItem_35 (by decide)  h9 (Nat.le_of_ble_eq_true rfl) ?_
      refine z_iload_n hc d_M_readsItem_38 0 rfl ?_
      refine z_if_ne (tgt := 62) hc d_M_readsItem_39 (by decide) (fun hq => ?_) (fun hq => ?_)
      · have hf := ifn hq hf
        refine z_aload_n hc d_M_readsItem_62 2 rfl ?_
        refine z_iconst (v := (iI 0)) hc d_M_readsItem_63 (by decide) ?_
        refine z_bipush (v := (iI 6)) hc d_M_readsItem_64 (by decide) ?_
        obtain ⟨v10, σ11, h12, hf⟩ := bd2 hf
        refine cz_M_186 hc d_M_readsItem_66 (by decide)  h12 (Nat.le_of_ble_eq_true rfl) ?_
        refine z_istore_n (L' := [(3, .int v10), (2, .int v4), (1, .int v1), (0, .ref (gAd g (6, 0, 0)))]) hc d_M_readsItem_69 (by decide) rfl ?_
        refine z_iload_n hc d_M_readsItem_70 0 rfl ?_
        refine z_if_lt (tgt := 92) hc d_M_readsItem_71 (by decide) (fun hq => ?_) (fun hq => ?_)
        · have hf := ifp hq hf
          refine z_sub [0] (L' := [(3, .int v10)]) rfl ?_
          exact sj_M_readsItem_92 hc v10    σ11 _ hf hρ
        · have hf := ifn hq hf
          refine z_aload_n hc d_M_readsItem_74 3 rfl ?_
          refine gf_M_9 hc d_M_readsItem_75  ?_
          refine z_iconst (v := (iI 3)) hc d_M_readsItem_78 (by decide) ?_
          refine z_iload_n hc d_M_readsItem_79 0 rfl ?_
          refine z_iadd hc d_M_readsItem_80 ?_
          refine z_iload_n hc d_M_readsItem_81 1 rfl ?_
          refine z_iconst (v := (iI 1)) hc d_M_readsItem_82 (by decide) ?_
          refine z_icmp_ne (tgt := 90) hc d_M_readsItem_83 (by decide) (fun hq => ?_) (fun hq => ?_)
          · have hf := ifn hq hf
            refine z_iconst (v := (iI 0)) hc d_M_readsItem_90 (by decide) ?_
            refine z_sub [0] (L' := [(3, .int v10)]) rfl ?_
            exact sj_M_readsItem_91 hc v10 (iI 0) ((iI 3) + v10)   σ11 _ hf hρ
          · have hf := ifp hq hf
            refine z_iconst (v := (iI 1)) hc d_M_readsItem_86 (by decide) ?_
            refine z_goto (tgt := 91) hc d_M_readsItem_87 (by decide) ?_
            refine z_sub [0] (L' := [(3, .int v10)]) rfl ?_
            exact sj_M_readsItem_91 hc v10 (iI 1) ((iI 3) + v10)   σ11 _ hf hρ
      · have hf := ifp hq hf
        refine z_aload_n hc d_M_readsItem_42 2 rfl ?_
        obtain ⟨v15, σ16, h17, hf⟩ := bd2 hf
        refine cz_M_196 hc d_M_readsItem_43 (by decide)  h17 (Nat.le_of_ble_eq_true rfl) ?_
        refine z_if_eq (tgt := 60) hc d_M_readsItem_46 (by decide) (fun hq => ?_) (fun hq => ?_)
        · have hf := ifp hq hf
          refine z_iconst (v := (iI 0)) hc d_M_readsItem_60 (by decide) ?_
          exact z_zret hc d_M_readsItem_61 (by decide) (rI hf hρ)
        · have hf := ifn hq hf
          refine z_aload_n hc d_M_readsItem_49 2 rfl ?_
          obtain ⟨v18, σ19, h20, hf⟩ := bd2 hf
          refine cz_M_199 hc d_M_readsItem_50 (by decide)  h20 (Nat.le_of_ble_eq_true rfl) ?_
          refine z_if_eq (tgt := 60) hc d_M_readsItem_53 (by decide) (fun hq => ?_) (fun hq => ?_)
          · have hf := ifp hq hf
            refine z_iconst (v := (iI 0)) hc d_M_readsItem_60 (by decide) ?_
            exact z_zret hc d_M_readsItem_61 (by decide) (rI hf hρ)
          · have hf := ifn hq hf
            refine z_iconst (v := (iI 1)) hc d_M_readsItem_56 (by decide) ?_
            refine z_goto (tgt := 61) hc d_M_readsItem_57 (by decide) ?_
            exact z_zret hc d_M_readsItem_61 (by decide) (rI hf hρ)
    · have hf := ifn hq hf
      refine z_iconst (v := (iI 0)) hc d_M_readsItem_32 (by decide) ?_
      exact z_zret hc d_M_readsItem_33 (by decide) (rI hf hρ)
  · have hf := ifn hq hf
    refine z_aload_n hc d_M_readsItem_13 1 rfl ?_
    refine z_iload_n hc d_M_readsItem_14 0 rfl ?_
    obtain ⟨v21, σ22, h23, hf⟩ := bd2 hf
    refine cz_M_193 hc d_M_readsItem_15 (by decide)  h23 (Nat.le_of_ble_eq_true rfl) ?_
    obtain ⟨r24, hb1, hf⟩ := bd hf
    exact z_bret hc d_M_readsItem_18 hb1 hf hρ
theorem vl_M_202 : VL R_M 202 y_M_readsItem c_M_readsItem 4 (some .boolean) 0 := ⟨tb5 194 (by decide +kernel) (by decide +kernel), tb5 196 (by decide +kernel) (by decide +kernel), tbp 36 (by decide +kernel), tb1 12 (by decide +kernel) (by decide +kernel), k_M_readsItem, by decide, by decide, by decide +kernel, by decide⟩
theorem cz_M_202 {x : Cx} {g : Gv} {cc : ByteArray} {nL d pc : Nat} {ret : Option FieldType} {ρ : Option Value × Sg} {L : List (Nat × Value)} {st : List Value} {σ : Sg} (hc : Zc x g cc R_M nL ret d) (hd : decode cc pc = .ok (.invokevirtual 202, 3)) (hdd : 6 ≤ d) {v : Int32} {σ1 : Sg} (hf : f_M_readsItem σ = some (v, σ1)) (hst : (st.map (fun v => v.category)).sum ≤ 8) (k : Z x g nL ρ (pc + 3) L (.int v :: st) σ1) : Z x g nL ρ pc L (.ref (gAd g (6, 0, 0)) :: st) σ := z_callV (ci := 11) (As := []) hc hd vl_M_202 hdd (6, 0, 0) (dm_M) rfl rfl (ok_M_readsItem g σ (v, σ1) hf) rfl rfl hst rfl k
def b_M_palace_20 (x1 : Int32) (x2 : Int32) (σ : Sg) : Option ((Int32 × Int32 × Sg) ⊕ (Int32 × Int32 × Sg)) :=
  (if x2 = (iI 0) then some (.inr (x1, x2, σ)) else (if (σ.1 6 0 0 2) = (iI 3) then b2 (f_M_nextToken  σ) (fun v10 σ11 => b2 (f_M_readsItem  σ11) (fun v13 σ14 => some (.inl (x1 + (iI 1), v13, σ14)))) else some (.inr (x1, x2, σ))))
theorem sb_M_palace_20 {x : Cx} {g : Gv} {ρ : Option Value × Sg} (hc : Zc x g c_M_palace R_M 3 (some .int) 6) (x1 : Int32) (x2 : Int32) (σ : Sg) (r : (Int32 × Int32 × Sg) ⊕ (Int32 × Int32 × Sg)) (hf : b_M_palace_20 x1 x2 σ = some r) (hi : ∀ a', r = .inl a' → Z x g 3 ρ 20 [(0, .ref (gAd g (6, 0, 0))), (1, .int a'.1), (2, .int a'.2.1)] [] a'.2.2) (he0 : ∀ b, r = .inr b → Z x g 3 ρ 47 [(0, .ref (gAd g (6, 0, 0))), (1, .int b.1), (2, .int b.2.1)] [] b.2.2) : Z x g 3 ρ 20 [(0, .ref (gAd g (6, 0, 0))), (1, .int x1), (2, .int x2)] [] σ := by
  unfold b_M_palace_20 at hf
  refine z_iload_n hc d_M_palace_20 2 rfl ?_
  refine z_if_eq (tgt := 47) hc d_M_palace_21 (by decide) (fun hq => ?_) (fun hq => ?_)
  · have hf := ifp hq hf
    refine z_sub [0, 1, 2] (L' := [(0, .ref (gAd g (6, 0, 0))), (1, .int x1), (2, .int x2)]) rfl ?_
    exact he0 (x1, x2, σ) (Option.some.inj hf).symm
  · have hf := ifn hq hf
    refine z_aload_n hc d_M_palace_24 0 rfl ?_
    refine gf_M_162 hc d_M_palace_25  ?_
    refine z_iconst (v := (iI 3)) hc d_M_palace_28 (by decide) ?_
    refine z_icmp_ne (tgt := 47) hc d_M_palace_29 (by decide) (fun hq => ?_) (fun hq => ?_)
    · have hf := ifn hq hf
      refine z_sub [0, 1, 2] (L' := [(0, .ref (gAd g (6, 0, 0))), (1, .int x1), (2, .int x2)]) rfl ?_
      exact he0 (x1, x2, σ) (Option.some.inj hf).symm
    · have hf := ifp hq hf
      refine z_aload_n hc d_M_palace_32 0 rfl ?_
      obtain ⟨v10, σ11, h12, hf⟩ := bd2 hf
      refine cz_M_183 hc d_M_palace_33 (by decide)  h12 (Nat.le_of_ble_eq_true rfl) ?_
      refine z_aload_n hc d_M_palace_36 0 rfl ?_
      obtain ⟨v13, σ14, h15, hf⟩ := bd2 hf
      refine cz_M_202 hc d_M_palace_37 (by decide)  h15 (Nat.le_of_ble_eq_true rfl) ?_
      refine z_istore_n (L' := [(2, .int v13), (0, .ref (gAd g (6, 0, 0))), (1, .int x1)]) hc d_M_palace_40 (by decide) rfl ?_
      refine z_iinc (v := x1 + (iI 1)) (L' := [(1, .int (x1 + (iI 1))), (2, .int v13), (0, .ref (gAd g (6, 0, 0)))]) hc d_M_palace_41 2 rfl rfl (by decide) rfl ?_
      refine z_goto (tgt := 20) hc d_M_palace_44 (by decide) ?_
      refine z_sub [2, 0, 1] (L' := [(0, .ref (gAd g (6, 0, 0))), (1, .int (x1 + (iI 1))), (2, .int v13)]) rfl ?_
      exact hi (x1 + (iI 1), v13, σ14) (Option.some.inj hf).symm
def j_M_palace_63 (x1 : Int32) (xs0 : Int32) (σ : Sg) : Option (Int32 × Sg) :=
  (if xs0 = (iI 0) then b2 (f_M_laysBack  (upI σ 6 0 0 1 (iI 0))) (fun v20 σ21 => some ((iI (-1)) - (σ21.1 6 0 0 3), σ21)) else some (x1, upI σ 6 0 0 1 (iI 0)))
theorem sj_M_palace_63 {x : Cx} {g : Gv} {ρ : Option Value × Sg} (hc : Zc x g c_M_palace R_M 3 (some .int) 6) (x1 : Int32) (xs0 : Int32) (σ : Sg) (r : Int32 × Sg) (hf : j_M_palace_63 x1 xs0 σ = some r) (hρ : ρ = (some (.int r.1), r.2)) : Z x g 3 ρ 63 [(0, .ref (gAd g (6, 0, 0))), (1, .int x1)] [.int xs0] σ := by
  unfold j_M_palace_63 at hf
  refine z_istore_n (L' := [(2, .int xs0), (0, .ref (gAd g (6, 0, 0))), (1, .int x1)]) hc d_M_palace_63 (by decide) rfl ?_
  refine z_aload_n hc d_M_palace_64 1 rfl ?_
  refine z_iconst (v := (iI 0)) hc d_M_palace_65 (by decide) ?_
  refine pf_M_148 hc d_M_palace_66  ?_
  refine z_iload_n hc d_M_palace_69 0 rfl ?_
  refine z_if_ne (tgt := 84) hc d_M_palace_70 (by decide) (fun hq => ?_) (fun hq => ?_)
  · have hf := ifn hq hf
    refine z_iload_n hc d_M_palace_84 2 rfl ?_
    exact z_iret hc d_M_palace_85 (rI hf hρ)
  · have hf := ifp hq hf
    refine z_aload_n hc d_M_palace_73 1 rfl ?_
    obtain ⟨v20, σ21, h22, hf⟩ := bd2 hf
    refine cz_M_129 hc d_M_palace_74 (by decide)  h22 (Nat.le_of_ble_eq_true rfl) ?_
    refine z_iconst (v := (iI (-1))) hc d_M_palace_77 (by decide) ?_
    refine z_aload_n hc d_M_palace_78 1 rfl ?_
    refine gf_M_155 hc d_M_palace_79  ?_
    refine z_isub hc d_M_palace_82 ?_
    exact z_iret hc d_M_palace_83 (rI hf hρ)
def j_M_palace_47 (x1 : Int32) (x2 : Int32) (σ : Sg) : Option (Int32 × Sg) :=
  (if x2 = (iI 0) then j_M_palace_63 x1 (iI 0) σ else (if (σ.1 6 0 0 2) = (iI 0) then j_M_palace_63 x1 (iI 1) σ else j_M_palace_63 x1 (iI 0) σ))
theorem sj_M_palace_47 {x : Cx} {g : Gv} {ρ : Option Value × Sg} (hc : Zc x g c_M_palace R_M 3 (some .int) 6) (x1 : Int32) (x2 : Int32) (σ : Sg) (r : Int32 × Sg) (hf : j_M_palace_47 x1 x2 σ = some r) (hρ : ρ = (some (.int r.1), r.2)) : Z x g 3 ρ 47 [(0, .ref (gAd g (6, 0, 0))), (1, .int x1), (2, .int x2)] [] σ := by
  unfold j_M_palace_47 at hf
  refine z_iload_n hc d_M_palace_47 2 rfl ?_
  refine z_if_eq (tgt := 62) hc d_M_palace_48 (by decide) (fun hq => ?_) (fun hq => ?_)
  · have hf := ifp hq hf
    refine z_iconst (v := (iI 0)) hc d_M_palace_62 (by decide) ?_
    refine z_sub [0, 1] (L' := [(0, .ref (gAd g (6, 0, 0))), (1, .int x1)]) rfl ?_
    exact sj_M_palace_63 hc x1 (iI 0)   σ _ hf hρ
  · have hf := ifn hq hf
    refine z_aload_n hc d_M_palace_51 0 rfl ?_
    refine gf_M_162 hc d_M_palace_52  ?_
    refine z_if_ne (tgt := 62) hc d_M_palace_55 (by decide) (fun hq => ?_) (fun hq => ?_)
    · have hf := ifn hq hf
      refine z_iconst (v := (iI 0)) hc d_M_palace_62 (by decide) ?_
      refine z_sub [0, 1] (L' := [(0, .ref (gAd g (6, 0, 0))), (1, .int x1)]) rfl ?_
      exact sj_M_palace_63 hc x1 (iI 0)   σ _ hf hρ
    · have hf := ifp hq hf
      refine z_iconst (v := (iI 1)) hc d_M_palace_58 (by decide) ?_
      refine z_goto (tgt := 63) hc d_M_palace_59 (by decide) ?_
      refine z_sub [0, 1] (L' := [(0, .ref (gAd g (6, 0, 0))), (1, .int x1)]) rfl ?_
      exact sj_M_palace_63 hc x1 (iI 1)   σ _ hf hρ
def f_M_palace (σ : Sg) : Option (Int32 × Sg) :=
  b2 (f_M_setsAside  σ) (fun v1 σ2 => b2 (f_M_nextToken  (upI σ2 6 0 0 4 (iI 0))) (fun v4 σ5 => b2 (f_M_readsItem  σ5) (fun v7 σ8 => Option.bind (lp (fun a => b_M_palace_20  a.1 a.2.1 a.2.2) FU ((iI 1), v7, σ8)) (fun b23 => j_M_palace_47 b23.1 b23.2.1  b23.2.2))))
theorem ok_M_palace (g : Gv) (σ : Sg) (r : Int32 × Sg) (hf : f_M_palace σ = some r) : Ok g y_M_palace c_M_palace 3 (some .int) 6 [.ref (gAd g (6, 0, 0))] σ (some (.int r.1), r.2) := by
  unfold f_M_palace at hf
  refine Ok.of [(0, .ref (gAd g (6, 0, 0)))] (by decide) (Nat.le_of_ble_eq_true rfl) rfl ?_
  intro x hc
  have hc : Zc x g c_M_palace R_M 3 (some .int) 6 := hc
  obtain ⟨ρ, hρ⟩ : ∃ ρ : Option Value × Sg, ρ = (some (.int r.1), r.2) := ⟨_, rfl⟩
  rw [← hρ]
  refine z_aload_n hc d_M_palace_0 0 rfl ?_
  obtain ⟨v1, σ2, h3, hf⟩ := bd2 hf
  refine cz_M_126 hc d_M_palace_1 (by decide)  h3 (Nat.le_of_ble_eq_true rfl) ?_
  refine z_aload_n hc d_M_palace_4 0 rfl ?_
  refine z_iconst (v := (iI 0)) hc d_M_palace_5 (by decide) ?_
  refine pf_M_152 hc d_M_palace_6  ?_
  refine z_aload_n hc d_M_palace_9 0 rfl ?_
  obtain ⟨v4, σ5, h6, hf⟩ := bd2 hf
  refine cz_M_183 hc d_M_palace_10 (by decide)  h6 (Nat.le_of_ble_eq_true rfl) ?_
  refine z_iconst (v := (iI 1)) hc d_M_palace_13 (by decide) ?_
  refine z_istore_n (L' := [(1, .int (iI 1)), (0, .ref (gAd g (6, 0, 0)))]) hc d_M_palace_14 (by decide) rfl ?_
  refine z_aload_n hc d_M_palace_15 1 rfl ?_
  obtain ⟨v7, σ8, h9, hf⟩ := bd2 hf
  refine cz_M_202 hc d_M_palace_16 (by decide)  h9 (Nat.le_of_ble_eq_true rfl) ?_
  refine z_istore_n (L' := [(2, .int v7), (1, .int (iI 1)), (0, .ref (gAd g (6, 0, 0)))]) hc d_M_palace_19 (by decide) rfl ?_
  refine z_sub [2, 1, 0] (L' := [(0, .ref (gAd g (6, 0, 0))), (1, .int (iI 1)), (2, .int v7)]) rfl ?_
  obtain ⟨⟨y17, y18, σ19⟩, hl24, hf⟩ := bd hf
  try dsimp only at hf
  refine lp_walk (α := (Int32 × Int32 × Sg)) (β := (Int32 × Int32 × Sg)) (body := (fun a : (Int32 × Int32 × Sg) => b_M_palace_20  a.1 a.2.1 a.2.2)) (In := (fun a : (Int32 × Int32 × Sg) => Z x g 3 ρ 20 [(0, .ref (gAd g (6, 0, 0))), (1, .int a.1), (2, .int a.2.1)] [] a.2.2)) (Out := (fun b => Z x g 3 ρ 47 [(0, .ref (gAd g (6, 0, 0))), (1, .int b.1), (2, .int b.2.1)] [] b.2.2)) (fun a r hb hi ho => sb_M_palace_20 hc   a.1 a.2.1 a.2.2 r hb hi (fun b e => ho _ e)) FU ((iI 1), v7, σ8) _ hl24 ?_
  dsimp only
  refine z_sub [0, 1, 2] (L' := [(0, .ref (gAd g (6, 0, 0))), (1, .int y17), (2, .int y18)]) rfl ?_
  exact sj_M_palace_47 hc y17 y18    σ19 _ hf hρ
def f_M_isSheet (x0 : Int32) (σ : Sg) : Option (Int32 × Sg) :=
  b2 (f_M_in1 x0 (iI 0) (iI 3) σ) (fun v1 σ2 => Option.bind (bo v1) (fun r4 => some (r4, σ2)))
theorem ok_M_isSheet (g : Gv) (x0 : Int32) (σ : Sg) (r : Int32 × Sg) (hf : f_M_isSheet x0 σ = some r) : Ok g y_M_isSheet c_M_isSheet 1 (some .boolean) 1 [.int x0] σ (some (.int r.1), r.2) := by
  unfold f_M_isSheet at hf
  refine Ok.of [(0, .int x0)] (by decide) (Nat.le_of_ble_eq_true rfl) rfl ?_
  intro x hc
  have hc : Zc x g c_M_isSheet R_M 1 (some .boolean) 1 := hc
  obtain ⟨ρ, hρ⟩ : ∃ ρ : Option Value × Sg, ρ = (some (.int r.1), r.2) := ⟨_, rfl⟩
  rw [← hρ]
  refine z_iload_n hc d_M_isSheet_0 0 rfl ?_
  refine z_iconst (v := (iI 0)) hc d_M_isSheet_1 (by decide) ?_
  refine z_iconst (v := (iI 3)) hc d_M_isSheet_2 (by decide) ?_
  obtain ⟨v1, σ2, h3, hf⟩ := bd2 hf
  refine cz_M_49 hc d_M_isSheet_3 (by decide)  h3 (Nat.le_of_ble_eq_true rfl) ?_
  obtain ⟨r4, hb1, hf⟩ := bd hf
  exact z_bret hc d_M_isSheet_6 hb1 hf hρ
theorem vl_M_205 : SL R_M 205 y_M_isSheet c_M_isSheet 1 (some .boolean) 1 := ⟨tb5 222 (by decide +kernel) (by decide +kernel), tb5 223 (by decide +kernel) (by decide +kernel), tb1 12 (by decide +kernel) (by decide +kernel), k_M_isSheet, by decide, by decide, by decide +kernel, by decide⟩
theorem cz_M_205 {x : Cx} {g : Gv} {cc : ByteArray} {nL d pc : Nat} {ret : Option FieldType} {ρ : Option Value × Sg} {L : List (Nat × Value)} {st : List Value} {σ : Sg} (hc : Zc x g cc R_M nL ret d) (hd : decode cc pc = .ok (.invokestatic 205, 3)) (hdd : 2 ≤ d) {x0 : Int32} {v : Int32} {σ1 : Sg} (hf : f_M_isSheet x0 σ = some (v, σ1)) (hst : (st.map (fun v => v.category)).sum ≤ 8) (k : Z x g nL ρ (pc + 3) L (.int v :: st) σ1) : Z x g nL ρ pc L (.int x0 :: st) σ := z_callS (As := [.int x0]) hc hd vl_M_205 hdd (ok_M_isSheet g x0 σ (v, σ1) hf) rfl rfl hst rfl k
def f_M_wrongSheet (x1 : Int32) (σ : Sg) : Option (Int32 × Sg) :=
  b2 (f_M_isSheet x1 σ) (fun v1 σ2 => (if v1 = (iI 0) then some ((iI 0), σ2) else Option.bind (rd x1 4) (fun j4 => (if (σ2.1 28 0 0 j4) = (iI 0) then some ((iI 5), σ2) else some ((iI (-1)), σ2)))))
theorem ok_M_wrongSheet (g : Gv) (x1 : Int32) (σ : Sg) (r : Int32 × Sg) (hf : f_M_wrongSheet x1 σ = some r) : Ok g y_M_wrongSheet c_M_wrongSheet 2 (some .int) 2 [.ref (gAd g (6, 0, 0)), .int x1] σ (some (.int r.1), r.2) := by
  unfold f_M_wrongSheet at hf
  refine Ok.of [(0, .ref (gAd g (6, 0, 0))), (1, .int x1)] (by decide) (Nat.le_of_ble_eq_true rfl) rfl ?_
  intro x hc
  have hc : Zc x g c_M_wrongSheet R_M 2 (some .int) 2 := hc
  obtain ⟨ρ, hρ⟩ : ∃ ρ : Option Value × Sg, ρ = (some (.int r.1), r.2) := ⟨_, rfl⟩
  rw [← hρ]
  refine z_iload_n hc d_M_wrongSheet_0 1 rfl ?_
  obtain ⟨v1, σ2, h3, hf⟩ := bd2 hf
  refine cz_M_205 hc d_M_wrongSheet_1 (by decide)  h3 (Nat.le_of_ble_eq_true rfl) ?_
  refine z_if_ne (tgt := 11) hc d_M_wrongSheet_4 (by decide) (fun hq => ?_) (fun hq => ?_)
  · have hf := ifn hq hf
    refine z_aload_n hc d_M_wrongSheet_11 0 rfl ?_
    refine gf_M_35 hc d_M_wrongSheet_12  ?_
    refine z_iload_n hc d_M_wrongSheet_15 1 rfl ?_
    obtain ⟨j4, hj5, hf⟩ := bd hf
    refine ald_widths hc d_M_wrongSheet_16  hj5 ?_
    refine z_if_ne (tgt := 24) hc d_M_wrongSheet_17 (by decide) (fun hq => ?_) (fun hq => ?_)
    · have hf := ifn hq hf
      refine z_iconst (v := (iI (-1))) hc d_M_wrongSheet_24 (by decide) ?_
      exact z_iret hc d_M_wrongSheet_25 (rI hf hρ)
    · have hf := ifp hq hf
      refine z_iconst (v := (iI 5)) hc d_M_wrongSheet_20 (by decide) ?_
      refine z_goto (tgt := 25) hc d_M_wrongSheet_21 (by decide) ?_
      exact z_iret hc d_M_wrongSheet_25 (rI hf hρ)
  · have hf := ifp hq hf
    refine z_iconst (v := (iI 0)) hc d_M_wrongSheet_7 (by decide) ?_
    refine z_goto (tgt := 25) hc d_M_wrongSheet_8 (by decide) ?_
    exact z_iret hc d_M_wrongSheet_25 (rI hf hρ)
def f_M_told (x1 : Int32) (x2 : Int32) (σ : Sg) : Option (Int64 × Sg) :=
  Option.bind (rd (((iI 40) * x1) + x2) 160) (fun j1 => some (σ.2.1 30 0 0 j1, σ))
theorem ok_M_told (g : Gv) (x1 : Int32) (x2 : Int32) (σ : Sg) (r : Int64 × Sg) (hf : f_M_told x1 x2 σ = some r) : Ok g y_M_told c_M_told 3 (some .long) 0 [.ref (gAd g (6, 0, 0)), .int x1, .int x2] σ (some (.long r.1), r.2) := by
  unfold f_M_told at hf
  refine Ok.of [(0, .ref (gAd g (6, 0, 0))), (1, .int x1), (2, .int x2)] (by decide) (Nat.le_of_ble_eq_true rfl) rfl ?_
  intro x hc
  have hc : Zc x g c_M_told R_M 3 (some .long) 0 := hc
  obtain ⟨ρ, hρ⟩ : ∃ ρ : Option Value × Sg, ρ = (some (.long r.1), r.2) := ⟨_, rfl⟩
  rw [← hρ]
  refine z_aload_n hc d_M_told_0 0 rfl ?_
  refine gf_M_41 hc d_M_told_1  ?_
  refine z_bipush (v := (iI 40)) hc d_M_told_4 (by decide) ?_
  refine z_iload_n hc d_M_told_6 1 rfl ?_
  refine z_imul hc d_M_told_7 ?_
  refine z_iload_n hc d_M_told_8 2 rfl ?_
  refine z_iadd hc d_M_told_9 ?_
  obtain ⟨j1, hj2, hf⟩ := bd hf
  refine ald_cells hc d_M_told_10  hj2 ?_
  exact z_lret hc d_M_told_11 (rL hf hρ)
def j_M_tells_47 (xs0 : Int64) (xs1 : Int32) (σ : Sg) : Option (Unit × Sg) :=
  Option.bind (rd xs1 160) (fun j5 => some ((), upL σ 30 0 0 j5 xs0))
theorem sj_M_tells_47 {x : Cx} {g : Gv} {ρ : Option Value × Sg} (hc : Zc x g c_M_tells R_M 5 none 0) (xs0 : Int64) (xs1 : Int32) (σ : Sg) (r : Unit × Sg) (hf : j_M_tells_47 xs0 xs1 σ = some r) (hρ : ρ = (none, r.2)) : Z x g 5 ρ 47 [] [.long xs0, .int xs1, .ref (gAd g (30, 0, 0))] σ := by
  unfold j_M_tells_47 at hf
  obtain ⟨j5, hj6, hf⟩ := bd hf
  refine ast_cells hc d_M_tells_47  hj6 ?_
  exact z_vret hc d_M_tells_48 (rV hf hρ)
def f_M_tells (x1 : Int32) (x2 : Int32) (x3 : Int64) (σ : Sg) : Option (Unit × Sg) :=
  Option.bind (rd x1 4) (fun j1 => (if (σ.1 28 0 0 j1) = (iI 8) then j_M_tells_47  ((((x3 : Int64).toInt32 : Int32).toInt8.toInt32 : Int32).toInt64) (((iI 40) * x1) + x2) σ else Option.bind (rd x1 4) (fun j3 => (if (σ.1 28 0 0 j3) = (iI 16) then j_M_tells_47  ((((x3 : Int64).toInt32 : Int32).toInt16.toInt32 : Int32).toInt64) (((iI 40) * x1) + x2) σ else j_M_tells_47  x3 (((iI 40) * x1) + x2) σ))))
theorem ok_M_tells (g : Gv) (x1 : Int32) (x2 : Int32) (x3 : Int64) (σ : Sg) (r : Unit × Sg) (hf : f_M_tells x1 x2 x3 σ = some r) : Ok g y_M_tells c_M_tells 5 none 0 [.ref (gAd g (6, 0, 0)), .int x1, .int x2, .long x3] σ (none, r.2) := by
  unfold f_M_tells at hf
  refine Ok.of [(0, .ref (gAd g (6, 0, 0))), (1, .int x1), (2, .int x2), (3, .long x3)] (by decide) (Nat.le_of_ble_eq_true rfl) rfl ?_
  intro x hc
  have hc : Zc x g c_M_tells R_M 5 none 0 := hc
  obtain ⟨ρ, hρ⟩ : ∃ ρ : Option Value × Sg, ρ = (none, r.2) := ⟨_, rfl⟩
  rw [← hρ]
  refine z_aload_n hc d_M_tells_0 0 rfl ?_
  refine gf_M_41 hc d_M_tells_1  ?_
  refine z_bipush (v := (iI 40)) hc d_M_tells_4 (by decide) ?_
  refine z_iload_n hc d_M_tells_6 1 rfl ?_
  refine z_imul hc d_M_tells_7 ?_
  refine z_iload_n hc d_M_tells_8 2 rfl ?_
  refine z_iadd hc d_M_tells_9 ?_
  refine z_aload_n hc d_M_tells_10 0 rfl ?_
  refine gf_M_35 hc d_M_tells_11  ?_
  refine z_iload_n hc d_M_tells_14 1 rfl ?_
  obtain ⟨j1, hj2, hf⟩ := bd hf
  refine ald_widths hc d_M_tells_15  hj2 ?_
  refine z_bipush (v := (iI 8)) hc d_M_tells_16 (by decide) ?_
  refine z_icmp_ne (tgt := 28) hc d_M_tells_18 (by decide) (fun hq => ?_) (fun hq => ?_)
  · have hf := ifn hq hf
    refine z_aload_n hc d_M_tells_28 0 rfl ?_
    refine gf_M_35 hc d_M_tells_29  ?_
    refine z_iload_n hc d_M_tells_32 1 rfl ?_
    obtain ⟨j3, hj4, hf⟩ := bd hf
    refine ald_widths hc d_M_tells_33  hj4 ?_
    refine z_bipush (v := (iI 16)) hc d_M_tells_34 (by decide) ?_
    refine z_icmp_ne (tgt := 46) hc d_M_tells_36 (by decide) (fun hq => ?_) (fun hq => ?_)
    · have hf := ifn hq hf
      refine z_lload_n hc d_M_tells_46 3 rfl ?_
      refine z_sub [] (L' := []) rfl ?_
      exact sj_M_tells_47 hc  x3 (((iI 40) * x1) + x2)   σ _ hf hρ
    · have hf := ifp hq hf
      refine z_lload_n hc d_M_tells_39 3 rfl ?_
      refine z_l2i hc d_M_tells_40 ?_
      refine z_i2s hc d_M_tells_41 ?_
      refine z_i2l hc d_M_tells_42 ?_
      refine z_goto (tgt := 47) hc d_M_tells_43 (by decide) ?_
      refine z_sub [] (L' := []) rfl ?_
      exact sj_M_tells_47 hc  ((((x3 : Int64).toInt32 : Int32).toInt16.toInt32 : Int32).toInt64) (((iI 40) * x1) + x2)   σ _ hf hρ
  · have hf := ifp hq hf
    refine z_lload_n hc d_M_tells_21 3 rfl ?_
    refine z_l2i hc d_M_tells_22 ?_
    refine z_i2b hc d_M_tells_23 ?_
    refine z_i2l hc d_M_tells_24 ?_
    refine z_goto (tgt := 47) hc d_M_tells_25 (by decide) ?_
    refine z_sub [] (L' := []) rfl ?_
    exact sj_M_tells_47 hc  ((((x3 : Int64).toInt32 : Int32).toInt8.toInt32 : Int32).toInt64) (((iI 40) * x1) + x2)   σ _ hf hρ
def j_M_sheet_29 (σ : Sg) : Option (Int32 × Sg) :=
  b2 (f_M_no (iI 0) σ) (fun v4 σ5 => some (v4, σ5))
theorem sj_M_sheet_29 {x : Cx} {g : Gv} {ρ : Option Value × Sg} (hc : Zc x g c_M_sheet R_M 5 (some .int) 2) (σ : Sg) (r : Int32 × Sg) (hf : j_M_sheet_29 σ = some r) (hρ : ρ = (some (.int r.1), r.2)) : Z x g 5 ρ 29 [(0, .ref (gAd g (6, 0, 0)))] [] σ := by
  unfold j_M_sheet_29 at hf
  refine z_aload_n hc d_M_sheet_29 0 rfl ?_
  refine z_iconst (v := (iI 0)) hc d_M_sheet_30 (by decide) ?_
  obtain ⟨v4, σ5, h6, hf⟩ := bd2 hf
  refine cz_M_92 hc d_M_sheet_31 (by decide)  h6 (Nat.le_of_ble_eq_true rfl) ?_
  exact z_iret hc d_M_sheet_34 (rI hf hρ)
def b_M_sheet_83 (x1 : Int32) (x4 : Int32) (σ : Sg) : Option ((Int32 × Sg) ⊕ (Sg)) :=
  (if (iI 40) ≤ x4 then some (.inr σ) else Option.bind (rd (((iI 40) * x1) + x4) 160) (fun j11 => some (.inl (x4 + (iI 1), upL σ 30 0 0 j11 (lI 0)))))
theorem sb_M_sheet_83 {x : Cx} {g : Gv} {ρ : Option Value × Sg} (hc : Zc x g c_M_sheet R_M 5 (some .int) 2) (x1 : Int32) (x4 : Int32) (σ : Sg) (r : (Int32 × Sg) ⊕ (Sg)) (hf : b_M_sheet_83 x1 x4 σ = some r) (hi : ∀ a', r = .inl a' → Z x g 5 ρ 83 [(0, .ref (gAd g (6, 0, 0))), (1, .int x1), (4, .int a'.1)] [] a'.2) (he0 : ∀ b, r = .inr b → Z x g 5 ρ 109 [(0, .ref (gAd g (6, 0, 0))), (1, .int x1)] [] b) : Z x g 5 ρ 83 [(0, .ref (gAd g (6, 0, 0))), (1, .int x1), (4, .int x4)] [] σ := by
  unfold b_M_sheet_83 at hf
  refine z_iload hc d_M_sheet_83 2 rfl ?_
  refine z_bipush (v := (iI 40)) hc d_M_sheet_85 (by decide) ?_
  refine z_icmp_ge (tgt := 109) hc d_M_sheet_87 (by decide) (fun hq => ?_) (fun hq => ?_)
  · have hf := ifp hq hf
    refine z_sub [0, 1] (L' := [(0, .ref (gAd g (6, 0, 0))), (1, .int x1)]) rfl ?_
    exact he0 σ (Option.some.inj hf).symm
  · have hf := ifn hq hf
    refine z_aload_n hc d_M_sheet_90 0 rfl ?_
    refine gf_M_41 hc d_M_sheet_91  ?_
    refine z_bipush (v := (iI 40)) hc d_M_sheet_94 (by decide) ?_
    refine z_iload_n hc d_M_sheet_96 1 rfl ?_
    refine z_imul hc d_M_sheet_97 ?_
    refine z_iload hc d_M_sheet_98 2 rfl ?_
    refine z_iadd hc d_M_sheet_100 ?_
    refine z_lconst (v := (lI 0)) hc d_M_sheet_101 (by decide) ?_
    obtain ⟨j11, hj12, hf⟩ := bd hf
    refine ast_cells hc d_M_sheet_102  hj12 ?_
    refine z_iinc (v := x4 + (iI 1)) (L' := [(4, .int (x4 + (iI 1))), (0, .ref (gAd g (6, 0, 0))), (1, .int x1)]) hc d_M_sheet_103 2 rfl rfl (by decide) rfl ?_
    refine z_goto (tgt := 83) hc d_M_sheet_106 (by decide) ?_
    refine z_sub [1, 2, 0] (L' := [(0, .ref (gAd g (6, 0, 0))), (1, .int x1), (4, .int (x4 + (iI 1)))]) rfl ?_
    exact hi (x4 + (iI 1), upL σ 30 0 0 j11 (lI 0)) (Option.some.inj hf).symm
def j_M_sheet_79 (x1 : Int32) (xs0 : Int32) (xs1 : Int32) (σ : Sg) : Option (Int32 × Sg) :=
  Option.bind (rd xs1 4) (fun j9 => Option.bind (lp (fun a => b_M_sheet_83 x1 a.1 a.2) FU ((iI 0), upI σ 29 0 0 j9 xs0)) (fun b17 => Option.bind (rd x1 4) (fun j15 => some (b17.1 29 0 0 j15, b17))))
theorem sj_M_sheet_79 {x : Cx} {g : Gv} {ρ : Option Value × Sg} (hc : Zc x g c_M_sheet R_M 5 (some .int) 2) (x1 : Int32) (xs0 : Int32) (xs1 : Int32) (σ : Sg) (r : Int32 × Sg) (hf : j_M_sheet_79 x1 xs0 xs1 σ = some r) (hρ : ρ = (some (.int r.1), r.2)) : Z x g 5 ρ 79 [(0, .ref (gAd g (6, 0, 0))), (1, .int x1)] [.int xs0, .int xs1, .ref (gAd g (29, 0, 0))] σ := by
  unfold j_M_sheet_79 at hf
  obtain ⟨j9, hj10, hf⟩ := bd hf
  refine ast_sizes hc d_M_sheet_79  hj10 ?_
  refine z_iconst (v := (iI 0)) hc d_M_sheet_80 (by decide) ?_
  refine z_istore (L' := [(4, .int (iI 0)), (0, .ref (gAd g (6, 0, 0))), (1, .int x1)]) hc d_M_sheet_81 (by decide) rfl ?_
  refine z_sub [1, 2, 0] (L' := [(0, .ref (gAd g (6, 0, 0))), (1, .int x1), (4, .int (iI 0))]) rfl ?_
  obtain ⟨σ14, hl18, hf⟩ := bd hf
  try dsimp only at hf
  refine lp_walk (α := (Int32 × Sg)) (β := (Sg)) (body := (fun a : (Int32 × Sg) => b_M_sheet_83 x1 a.1 a.2)) (In := (fun a : (Int32 × Sg) => Z x g 5 ρ 83 [(0, .ref (gAd g (6, 0, 0))), (1, .int x1), (4, .int a.1)] [] a.2)) (Out := (fun b => Z x g 5 ρ 109 [(0, .ref (gAd g (6, 0, 0))), (1, .int x1)] [] b)) (fun a r hb hi ho => sb_M_sheet_83 hc x1  a.1 a.2 r hb hi (fun b e => ho _ e)) FU ((iI 0), upI σ 29 0 0 j9 xs0) _ hl18 ?_
  refine z_aload_n hc d_M_sheet_109 0 rfl ?_
  refine gf_M_38 hc d_M_sheet_110  ?_
  refine z_iload_n hc d_M_sheet_113 1 rfl ?_
  obtain ⟨j15, hj16, hf⟩ := bd hf
  refine ald_sizes hc d_M_sheet_114  hj16 ?_
  exact z_iret hc d_M_sheet_115 (rI hf hρ)
def j_M_sheet_35 (x1 : Int32) (x2 : Int32) (x3 : Int32) (σ : Sg) : Option (Int32 × Sg) :=
  (if (iI 0) ≤ x3 then (if x3 ≤ (iI 40) then Option.bind (rd x1 4) (fun j7 => (if x2 = (iI 0) then j_M_sheet_79 x1 (iI 0) x1 (upI σ 28 0 0 j7 x2) else j_M_sheet_79 x1 x3 x1 (upI σ 28 0 0 j7 x2))) else b2 (f_M_no (iI 0) σ) (fun v19 σ20 => some (v19, σ20))) else b2 (f_M_no (iI 6) σ) (fun v22 σ23 => some (v22, σ23)))
theorem sj_M_sheet_35 {x : Cx} {g : Gv} {ρ : Option Value × Sg} (hc : Zc x g c_M_sheet R_M 5 (some .int) 2) (x1 : Int32) (x2 : Int32) (x3 : Int32) (σ : Sg) (r : Int32 × Sg) (hf : j_M_sheet_35 x1 x2 x3 σ = some r) (hρ : ρ = (some (.int r.1), r.2)) : Z x g 5 ρ 35 [(0, .ref (gAd g (6, 0, 0))), (1, .int x1), (2, .int x2), (3, .int x3)] [] σ := by
  unfold j_M_sheet_35 at hf
  refine z_iload_n hc d_M_sheet_35 3 rfl ?_
  refine z_if_ge (tgt := 46) hc d_M_sheet_36 (by decide) (fun hq => ?_) (fun hq => ?_)
  · have hf := ifp hq hf
    refine z_iload_n hc d_M_sheet_46 3 rfl ?_
    refine z_bipush (v := (iI 40)) hc d_M_sheet_47 (by decide) ?_
    refine z_icmp_le (tgt := 58) hc d_M_sheet_49 (by decide) (fun hq => ?_) (fun hq => ?_)
    · have hf := ifp hq hf
      refine z_aload_n hc d_M_sheet_58 0 rfl ?_
      refine gf_M_35 hc d_M_sheet_59  ?_
      refine z_iload_n hc d_M_sheet_62 1 rfl ?_
      refine z_iload_n hc d_M_sheet_63 2 rfl ?_
      obtain ⟨j7, hj8, hf⟩ := bd hf
      refine ast_widths hc d_M_sheet_64  hj8 ?_
      refine z_aload_n hc d_M_sheet_65 0 rfl ?_
      refine gf_M_38 hc d_M_sheet_66  ?_
      refine z_iload_n hc d_M_sheet_69 1 rfl ?_
      refine z_iload_n hc d_M_sheet_70 2 rfl ?_
      refine z_if_ne (tgt := 78) hc d_M_sheet_71 (by decide) (fun hq => ?_) (fun hq => ?_)
      · have hf := ifn hq hf
        refine z_iload_n hc d_M_sheet_78 3 rfl ?_
        refine z_sub [0, 1] (L' := [(0, .ref (gAd g (6, 0, 0))), (1, .int x1)]) rfl ?_
        exact sj_M_sheet_79 hc x1 x3 x1   (upI σ 28 0 0 j7 x2) _ hf hρ
      · have hf := ifp hq hf
        refine z_iconst (v := (iI 0)) hc d_M_sheet_74 (by decide) ?_
        refine z_goto (tgt := 79) hc d_M_sheet_75 (by decide) ?_
        refine z_sub [0, 1] (L' := [(0, .ref (gAd g (6, 0, 0))), (1, .int x1)]) rfl ?_
        exact sj_M_sheet_79 hc x1 (iI 0) x1   (upI σ 28 0 0 j7 x2) _ hf hρ
    · have hf := ifn hq hf
      refine z_aload_n hc d_M_sheet_52 0 rfl ?_
      refine z_iconst (v := (iI 0)) hc d_M_sheet_53 (by decide) ?_
      obtain ⟨v19, σ20, h21, hf⟩ := bd2 hf
      refine cz_M_92 hc d_M_sheet_54 (by decide)  h21 (Nat.le_of_ble_eq_true rfl) ?_
      exact z_iret hc d_M_sheet_57 (rI hf hρ)
  · have hf := ifn hq hf
    refine z_aload_n hc d_M_sheet_39 0 rfl ?_
    refine z_bipush (v := (iI 6)) hc d_M_sheet_40 (by decide) ?_
    obtain ⟨v22, σ23, h24, hf⟩ := bd2 hf
    refine cz_M_92 hc d_M_sheet_42 (by decide)  h24 (Nat.le_of_ble_eq_true rfl) ?_
    exact z_iret hc d_M_sheet_45 (rI hf hρ)
def f_M_sheet (x1 : Int32) (x2 : Int32) (x3 : Int32) (σ : Sg) : Option (Int32 × Sg) :=
  b2 (f_M_isSheet x1 σ) (fun v1 σ2 => (if v1 = (iI 0) then j_M_sheet_29   σ2 else (if x2 = (iI 0) then j_M_sheet_35 x1 x2 x3  σ2 else (if x2 = (iI 8) then j_M_sheet_35 x1 x2 x3  σ2 else (if x2 = (iI 16) then j_M_sheet_35 x1 x2 x3  σ2 else (if x2 = (iI 64) then j_M_sheet_35 x1 x2 x3  σ2 else j_M_sheet_29   σ2))))))
theorem ok_M_sheet (g : Gv) (x1 : Int32) (x2 : Int32) (x3 : Int32) (σ : Sg) (r : Int32 × Sg) (hf : f_M_sheet x1 x2 x3 σ = some r) : Ok g y_M_sheet c_M_sheet 5 (some .int) 2 [.ref (gAd g (6, 0, 0)), .int x1, .int x2, .int x3] σ (some (.int r.1), r.2) := by
  unfold f_M_sheet at hf
  refine Ok.of [(0, .ref (gAd g (6, 0, 0))), (1, .int x1), (2, .int x2), (3, .int x3)] (by decide) (Nat.le_of_ble_eq_true rfl) rfl ?_
  intro x hc
  have hc : Zc x g c_M_sheet R_M 5 (some .int) 2 := hc
  obtain ⟨ρ, hρ⟩ : ∃ ρ : Option Value × Sg, ρ = (some (.int r.1), r.2) := ⟨_, rfl⟩
  rw [← hρ]
  refine z_iload_n hc d_M_sheet_0 1 rfl ?_
  obtain ⟨v1, σ2, h3, hf⟩ := bd2 hf
  refine cz_M_205 hc d_M_sheet_1 (by decide)  h3 (Nat.le_of_ble_eq_true rfl) ?_
  refine z_if_eq (tgt := 29) hc d_M_sheet_4 (by decide) (fun hq => ?_) (fun hq => ?_)
  · have hf := ifp hq hf
    refine z_sub [0] (L' := [(0, .ref (gAd g (6, 0, 0)))]) rfl ?_
    exact sj_M_sheet_29 hc     σ2 _ hf hρ
  · have hf := ifn hq hf
    refine z_iload_n hc d_M_sheet_7 2 rfl ?_
    refine z_if_eq (tgt := 35) hc d_M_sheet_8 (by decide) (fun hq => ?_) (fun hq => ?_)
    · have hf := ifp hq hf
      refine z_sub [0, 1, 2, 3] (L' := [(0, .ref (gAd g (6, 0, 0))), (1, .int x1), (2, .int x2), (3, .int x3)]) rfl ?_
      exact sj_M_sheet_35 hc x1 x2 x3    σ2 _ hf hρ
    · have hf := ifn hq hf
      refine z_iload_n hc d_M_sheet_11 2 rfl ?_
      refine z_bipush (v := (iI 8)) hc d_M_sheet_12 (by decide) ?_
      refine z_icmp_eq (tgt := 35) hc d_M_sheet_14 (by decide) (fun hq => ?_) (fun hq => ?_)
      · have hf := ifp hq hf
        refine z_sub [0, 1, 2, 3] (L' := [(0, .ref (gAd g (6, 0, 0))), (1, .int x1), (2, .int x2), (3, .int x3)]) rfl ?_
        exact sj_M_sheet_35 hc x1 x2 x3    σ2 _ hf hρ
      · have hf := ifn hq hf
        refine z_iload_n hc d_M_sheet_17 2 rfl ?_
        refine z_bipush (v := (iI 16)) hc d_M_sheet_18 (by decide) ?_
        refine z_icmp_eq (tgt := 35) hc d_M_sheet_20 (by decide) (fun hq => ?_) (fun hq => ?_)
        · have hf := ifp hq hf
          refine z_sub [0, 1, 2, 3] (L' := [(0, .ref (gAd g (6, 0, 0))), (1, .int x1), (2, .int x2), (3, .int x3)]) rfl ?_
          exact sj_M_sheet_35 hc x1 x2 x3    σ2 _ hf hρ
        · have hf := ifn hq hf
          refine z_iload_n hc d_M_sheet_23 2 rfl ?_
          refine z_bipush (v := (iI 64)) hc d_M_sheet_24 (by decide) ?_
          refine z_icmp_eq (tgt := 35) hc d_M_sheet_26 (by decide) (fun hq => ?_) (fun hq => ?_)
          · have hf := ifp hq hf
            refine z_sub [0, 1, 2, 3] (L' := [(0, .ref (gAd g (6, 0, 0))), (1, .int x1), (2, .int x2), (3, .int x3)]) rfl ?_
            exact sj_M_sheet_35 hc x1 x2 x3    σ2 _ hf hρ
          · have hf := ifn hq hf
            refine z_sub [0] (L' := [(0, .ref (gAd g (6, 0, 0)))]) rfl ?_
            exact sj_M_sheet_29 hc     σ2 _ hf hρ
theorem vl_M_208 : VL R_M 208 y_M_wrongSheet c_M_wrongSheet 2 (some .int) 1 := ⟨tb5 229 (by decide +kernel) (by decide +kernel), tb5 231 (by decide +kernel) (by decide +kernel), tbp 42 (by decide +kernel), tb1 12 (by decide +kernel) (by decide +kernel), k_M_wrongSheet, by decide, by decide, by decide +kernel, by decide⟩
theorem cz_M_208 {x : Cx} {g : Gv} {cc : ByteArray} {nL d pc : Nat} {ret : Option FieldType} {ρ : Option Value × Sg} {L : List (Nat × Value)} {st : List Value} {σ : Sg} (hc : Zc x g cc R_M nL ret d) (hd : decode cc pc = .ok (.invokevirtual 208, 3)) (hdd : 3 ≤ d) {x1 : Int32} {v : Int32} {σ1 : Sg} (hf : f_M_wrongSheet x1 σ = some (v, σ1)) (hst : (st.map (fun v => v.category)).sum ≤ 8) (k : Z x g nL ρ (pc + 3) L (.int v :: st) σ1) : Z x g nL ρ pc L (.int x1 :: .ref (gAd g (6, 0, 0)) :: st) σ := z_callV (ci := 11) (As := [.int x1]) hc hd vl_M_208 hdd (6, 0, 0) (dm_M) rfl rfl (ok_M_wrongSheet g x1 σ (v, σ1) hf) rfl rfl hst rfl k
theorem vl_M_211 : VL R_M 211 y_M_told c_M_told 3 (some .long) 2 := ⟨tb5 233 (by decide +kernel) (by decide +kernel), tb5 235 (by decide +kernel) (by decide +kernel), tbp 43 (by decide +kernel), tb1 12 (by decide +kernel) (by decide +kernel), k_M_told, by decide, by decide, by decide +kernel, by decide⟩
theorem cz_M_211 {x : Cx} {g : Gv} {cc : ByteArray} {nL d pc : Nat} {ret : Option FieldType} {ρ : Option Value × Sg} {L : List (Nat × Value)} {st : List Value} {σ : Sg} (hc : Zc x g cc R_M nL ret d) (hd : decode cc pc = .ok (.invokevirtual 211, 3)) (hdd : 1 ≤ d) {x1 : Int32} {x2 : Int32} {v : Int64} {σ1 : Sg} (hf : f_M_told x1 x2 σ = some (v, σ1)) (hst : (st.map (fun v => v.category)).sum ≤ 8) (k : Z x g nL ρ (pc + 3) L (.long v :: st) σ1) : Z x g nL ρ pc L (.int x2 :: .int x1 :: .ref (gAd g (6, 0, 0)) :: st) σ := z_callV (ci := 11) (As := [.int x1, .int x2]) hc hd vl_M_211 hdd (6, 0, 0) (dm_M) rfl rfl (ok_M_told g x1 x2 σ (v, σ1) hf) rfl rfl hst rfl k
theorem vl_M_215 : VL R_M 215 y_M_tells c_M_tells 5 none 3 := ⟨tb5 237 (by decide +kernel) (by decide +kernel), tb5 239 (by decide +kernel) (by decide +kernel), tbp 44 (by decide +kernel), tb1 12 (by decide +kernel) (by decide +kernel), k_M_tells, by decide, by decide, by decide +kernel, by decide⟩
theorem cz_M_215 {x : Cx} {g : Gv} {cc : ByteArray} {nL d pc : Nat} {ret : Option FieldType} {ρ : Option Value × Sg} {L : List (Nat × Value)} {st : List Value} {σ : Sg} (hc : Zc x g cc R_M nL ret d) (hd : decode cc pc = .ok (.invokevirtual 215, 3)) (hdd : 1 ≤ d) {x1 : Int32} {x2 : Int32} {x3 : Int64} {v : Unit} {σ1 : Sg} (hf : f_M_tells x1 x2 x3 σ = some (v, σ1)) (hst : (st.map (fun v => v.category)).sum ≤ 8) (k : Z x g nL ρ (pc + 3) L (st) σ1) : Z x g nL ρ pc L (.long x3 :: .int x2 :: .int x1 :: .ref (gAd g (6, 0, 0)) :: st) σ := z_callV (ci := 11) (As := [.int x1, .int x2, .long x3]) hc hd vl_M_215 hdd (6, 0, 0) (dm_M) rfl rfl (ok_M_tells g x1 x2 x3 σ (v, σ1) hf) rfl rfl hst rfl k
def j_M_write_31 (x1 : Int32) (x2 : Int32) (x3 : Int64) (x5 : Int32) (σ : Sg) : Option (Int64 × Sg) :=
  (if x5 < (iI 0) then b2 (f_M_told x1 x2 σ) (fun v4 σ5 => b2 (f_M_tells x1 x2 x3 σ5) (fun v7 σ8 => some (v4, σ8))) else b2 (f_M_no x5 σ) (fun v10 σ11 => some ((v10 : Int32).toInt64, σ11)))
theorem sj_M_write_31 {x : Cx} {g : Gv} {ρ : Option Value × Sg} (hc : Zc x g c_M_write R_M 8 (some .long) 3) (x1 : Int32) (x2 : Int32) (x3 : Int64) (x5 : Int32) (σ : Sg) (r : Int64 × Sg) (hf : j_M_write_31 x1 x2 x3 x5 σ = some r) (hρ : ρ = (some (.long r.1), r.2)) : Z x g 8 ρ 31 [(0, .ref (gAd g (6, 0, 0))), (1, .int x1), (2, .int x2), (3, .long x3), (5, .int x5)] [] σ := by
  unfold j_M_write_31 at hf
  refine z_iload hc d_M_write_31 4 rfl ?_
  refine z_if_lt (tgt := 44) hc d_M_write_33 (by decide) (fun hq => ?_) (fun hq => ?_)
  · have hf := ifp hq hf
    refine z_aload_n hc d_M_write_44 0 rfl ?_
    refine z_iload_n hc d_M_write_45 1 rfl ?_
    refine z_iload_n hc d_M_write_46 2 rfl ?_
    obtain ⟨v4, σ5, h6, hf⟩ := bd2 hf
    refine cz_M_211 hc d_M_write_47 (by decide)  h6 (Nat.le_of_ble_eq_true rfl) ?_
    refine z_lstore (L' := [(6, .long v4), (0, .ref (gAd g (6, 0, 0))), (1, .int x1), (2, .int x2), (3, .long x3), (5, .int x5)]) hc d_M_write_50 (by decide) rfl ?_
    refine z_aload_n hc d_M_write_52 1 rfl ?_
    refine z_iload_n hc d_M_write_53 2 rfl ?_
    refine z_iload_n hc d_M_write_54 3 rfl ?_
    refine z_lload_n hc d_M_write_55 4 rfl ?_
    obtain ⟨v7, σ8, h9, hf⟩ := bd2 hf
    refine cz_M_215 hc d_M_write_56 (by decide)  h9 (Nat.le_of_ble_eq_true rfl) ?_
    refine z_lload hc d_M_write_59 0 rfl ?_
    exact z_lret hc d_M_write_61 (rL hf hρ)
  · have hf := ifn hq hf
    refine z_aload_n hc d_M_write_36 0 rfl ?_
    refine z_iload hc d_M_write_37 4 rfl ?_
    obtain ⟨v10, σ11, h12, hf⟩ := bd2 hf
    refine cz_M_92 hc d_M_write_39 (by decide)  h12 (Nat.le_of_ble_eq_true rfl) ?_
    refine z_i2l hc d_M_write_42 ?_
    exact z_lret hc d_M_write_43 (rL hf hρ)
def f_M_write (x1 : Int32) (x2 : Int32) (x3 : Int64) (σ : Sg) : Option (Int64 × Sg) :=
  b2 (f_M_wrongSheet x1 σ) (fun v1 σ2 => (if (iI 0) ≤ v1 then j_M_write_31 x1 x2 x3 v1  σ2 else Option.bind (rd x1 4) (fun j13 => b2 (f_M_in1 x2 (iI 0) ((σ2.1 29 0 0 j13) - (iI 1)) σ2) (fun v15 σ16 => (if v15 = (iI 0) then j_M_write_31 x1 x2 x3 (iI 0)  σ16 else j_M_write_31 x1 x2 x3 v1  σ16)))))
theorem ok_M_write (g : Gv) (x1 : Int32) (x2 : Int32) (x3 : Int64) (σ : Sg) (r : Int64 × Sg) (hf : f_M_write x1 x2 x3 σ = some r) : Ok g y_M_write c_M_write 8 (some .long) 3 [.ref (gAd g (6, 0, 0)), .int x1, .int x2, .long x3] σ (some (.long r.1), r.2) := by
  unfold f_M_write at hf
  refine Ok.of [(0, .ref (gAd g (6, 0, 0))), (1, .int x1), (2, .int x2), (3, .long x3)] (by decide) (Nat.le_of_ble_eq_true rfl) rfl ?_
  intro x hc
  have hc : Zc x g c_M_write R_M 8 (some .long) 3 := hc
  obtain ⟨ρ, hρ⟩ : ∃ ρ : Option Value × Sg, ρ = (some (.long r.1), r.2) := ⟨_, rfl⟩
  rw [← hρ]
  refine z_aload_n hc d_M_write_0 0 rfl ?_
  refine z_iload_n hc d_M_write_1 1 rfl ?_
  obtain ⟨v1, σ2, h3, hf⟩ := bd2 hf
  refine cz_M_208 hc d_M_write_2 (by decide)  h3 (Nat.le_of_ble_eq_true rfl) ?_
  refine z_istore (L' := [(5, .int v1), (0, .ref (gAd g (6, 0, 0))), (1, .int x1), (2, .int x2), (3, .long x3)]) hc d_M_write_5 (by decide) rfl ?_
  refine z_iload hc d_M_write_7 0 rfl ?_
  refine z_if_ge (tgt := 31) hc d_M_write_9 (by decide) (fun hq => ?_) (fun hq => ?_)
  · have hf := ifp hq hf
    refine z_sub [1, 2, 3, 4, 0] (L' := [(0, .ref (gAd g (6, 0, 0))), (1, .int x1), (2, .int x2), (3, .long x3), (5, .int v1)]) rfl ?_
    exact sj_M_write_31 hc x1 x2 x3 v1    σ2 _ hf hρ
  · have hf := ifn hq hf
    refine z_iload_n hc d_M_write_12 3 rfl ?_
    refine z_iconst (v := (iI 0)) hc d_M_write_13 (by decide) ?_
    refine z_aload_n hc d_M_write_14 1 rfl ?_
    refine gf_M_38 hc d_M_write_15  ?_
    refine z_iload_n hc d_M_write_18 2 rfl ?_
    obtain ⟨j13, hj14, hf⟩ := bd hf
    refine ald_sizes hc d_M_write_19  hj14 ?_
    refine z_iconst (v := (iI 1)) hc d_M_write_20 (by decide) ?_
    refine z_isub hc d_M_write_21 ?_
    obtain ⟨v15, σ16, h17, hf⟩ := bd2 hf
    refine cz_M_49 hc d_M_write_22 (by decide)  h17 (Nat.le_of_ble_eq_true rfl) ?_
    refine z_if_ne (tgt := 31) hc d_M_write_25 (by decide) (fun hq => ?_) (fun hq => ?_)
    · have hf := ifn hq hf
      refine z_sub [1, 2, 3, 4, 0] (L' := [(0, .ref (gAd g (6, 0, 0))), (1, .int x1), (2, .int x2), (3, .long x3), (5, .int v1)]) rfl ?_
      exact sj_M_write_31 hc x1 x2 x3 v1    σ16 _ hf hρ
    · have hf := ifp hq hf
      refine z_iconst (v := (iI 0)) hc d_M_write_28 (by decide) ?_
      refine z_istore (L' := [(5, .int (iI 0)), (0, .ref (gAd g (6, 0, 0))), (1, .int x1), (2, .int x2), (3, .long x3)]) hc d_M_write_29 (by decide) rfl ?_
      refine z_sub [1, 2, 3, 4, 0] (L' := [(0, .ref (gAd g (6, 0, 0))), (1, .int x1), (2, .int x2), (3, .long x3), (5, .int (iI 0))]) rfl ?_
      exact sj_M_write_31 hc x1 x2 x3 (iI 0)    σ16 _ hf hρ
def j_M_copy_14 (σ : Sg) : Option (Int32 × Sg) :=
  b2 (f_M_no (iI 0) σ) (fun v4 σ5 => some (v4, σ5))
theorem sj_M_copy_14 {x : Cx} {g : Gv} {ρ : Option Value × Sg} (hc : Zc x g c_M_copy R_M 7 (some .int) 2) (σ : Sg) (r : Int32 × Sg) (hf : j_M_copy_14 σ = some r) (hρ : ρ = (some (.int r.1), r.2)) : Z x g 7 ρ 14 [(0, .ref (gAd g (6, 0, 0)))] [] σ := by
  unfold j_M_copy_14 at hf
  refine z_aload_n hc d_M_copy_14 0 rfl ?_
  refine z_iconst (v := (iI 0)) hc d_M_copy_15 (by decide) ?_
  obtain ⟨v4, σ5, h6, hf⟩ := bd2 hf
  refine cz_M_92 hc d_M_copy_16 (by decide)  h6 (Nat.le_of_ble_eq_true rfl) ?_
  exact z_iret hc d_M_copy_19 (rI hf hρ)
def j_M_copy_38 (σ : Sg) : Option (Int32 × Sg) :=
  b2 (f_M_no (iI 5) σ) (fun v12 σ13 => some (v12, σ13))
theorem sj_M_copy_38 {x : Cx} {g : Gv} {ρ : Option Value × Sg} (hc : Zc x g c_M_copy R_M 7 (some .int) 2) (σ : Sg) (r : Int32 × Sg) (hf : j_M_copy_38 σ = some r) (hρ : ρ = (some (.int r.1), r.2)) : Z x g 7 ρ 38 [(0, .ref (gAd g (6, 0, 0)))] [] σ := by
  unfold j_M_copy_38 at hf
  refine z_aload_n hc d_M_copy_38 0 rfl ?_
  refine z_iconst (v := (iI 5)) hc d_M_copy_39 (by decide) ?_
  obtain ⟨v12, σ13, h14, hf⟩ := bd2 hf
  refine cz_M_92 hc d_M_copy_40 (by decide)  h14 (Nat.le_of_ble_eq_true rfl) ?_
  exact z_iret hc d_M_copy_43 (rI hf hρ)
def j_M_copy_106 (σ : Sg) : Option (Int32 × Sg) :=
  b2 (f_M_no (iI 0) σ) (fun v21 σ22 => some (v21, σ22))
theorem sj_M_copy_106 {x : Cx} {g : Gv} {ρ : Option Value × Sg} (hc : Zc x g c_M_copy R_M 7 (some .int) 2) (σ : Sg) (r : Int32 × Sg) (hf : j_M_copy_106 σ = some r) (hρ : ρ = (some (.int r.1), r.2)) : Z x g 7 ρ 106 [(0, .ref (gAd g (6, 0, 0)))] [] σ := by
  unfold j_M_copy_106 at hf
  refine z_aload_n hc d_M_copy_106 0 rfl ?_
  refine z_iconst (v := (iI 0)) hc d_M_copy_107 (by decide) ?_
  obtain ⟨v21, σ22, h23, hf⟩ := bd2 hf
  refine cz_M_92 hc d_M_copy_108 (by decide)  h23 (Nat.le_of_ble_eq_true rfl) ?_
  exact z_iret hc d_M_copy_111 (rI hf hρ)
def b_M_copy_115 (x1 : Int32) (x2 : Int32) (x3 : Int32) (x4 : Int32) (x5 : Int32) (x6 : Int32) (σ : Sg) : Option ((Int32 × Sg) ⊕ (Sg)) :=
  (if x5 ≤ x6 then some (.inr σ) else b2 (f_M_told x1 (x2 + x6) σ) (fun v28 σ29 => Option.bind (rd x6 40) (fun j31 => some (.inl (x6 + (iI 1), upL σ29 31 0 0 j31 v28)))))
theorem sb_M_copy_115 {x : Cx} {g : Gv} {ρ : Option Value × Sg} (hc : Zc x g c_M_copy R_M 7 (some .int) 2) (x1 : Int32) (x2 : Int32) (x3 : Int32) (x4 : Int32) (x5 : Int32) (x6 : Int32) (σ : Sg) (r : (Int32 × Sg) ⊕ (Sg)) (hf : b_M_copy_115 x1 x2 x3 x4 x5 x6 σ = some r) (hi : ∀ a', r = .inl a' → Z x g 7 ρ 115 [(0, .ref (gAd g (6, 0, 0))), (1, .int x1), (2, .int x2), (3, .int x3), (4, .int x4), (5, .int x5), (6, .int a'.1)] [] a'.2) (he0 : ∀ b, r = .inr b → Z x g 7 ρ 144 [(0, .ref (gAd g (6, 0, 0))), (3, .int x3), (4, .int x4), (5, .int x5)] [] b) : Z x g 7 ρ 115 [(0, .ref (gAd g (6, 0, 0))), (1, .int x1), (2, .int x2), (3, .int x3), (4, .int x4), (5, .int x5), (6, .int x6)] [] σ := by
  unfold b_M_copy_115 at hf
  refine z_iload hc d_M_copy_115 6 rfl ?_
  refine z_iload hc d_M_copy_117 5 rfl ?_
  refine z_icmp_ge (tgt := 144) hc d_M_copy_119 (by decide) (fun hq => ?_) (fun hq => ?_)
  · have hf := ifp hq hf
    refine z_sub [0, 3, 4, 5] (L' := [(0, .ref (gAd g (6, 0, 0))), (3, .int x3), (4, .int x4), (5, .int x5)]) rfl ?_
    exact he0 σ (Option.some.inj hf).symm
  · have hf := ifn hq hf
    refine z_aload_n hc d_M_copy_122 0 rfl ?_
    refine gf_M_45 hc d_M_copy_123  ?_
    refine z_iload hc d_M_copy_126 6 rfl ?_
    refine z_aload_n hc d_M_copy_128 0 rfl ?_
    refine z_iload_n hc d_M_copy_129 1 rfl ?_
    refine z_iload_n hc d_M_copy_130 2 rfl ?_
    refine z_iload hc d_M_copy_131 6 rfl ?_
    refine z_iadd hc d_M_copy_133 ?_
    obtain ⟨v28, σ29, h30, hf⟩ := bd2 hf
    refine cz_M_211 hc d_M_copy_134 (by decide)  h30 (Nat.le_of_ble_eq_true rfl) ?_
    obtain ⟨j31, hj32, hf⟩ := bd hf
    refine ast_carried hc d_M_copy_137  hj32 ?_
    refine z_iinc (v := x6 + (iI 1)) (L' := [(6, .int (x6 + (iI 1))), (0, .ref (gAd g (6, 0, 0))), (1, .int x1), (2, .int x2), (3, .int x3), (4, .int x4), (5, .int x5)]) hc d_M_copy_138 6 rfl rfl (by decide) rfl ?_
    refine z_goto (tgt := 115) hc d_M_copy_141 (by decide) ?_
    refine z_sub [1, 2, 3, 4, 5, 6, 0] (L' := [(0, .ref (gAd g (6, 0, 0))), (1, .int x1), (2, .int x2), (3, .int x3), (4, .int x4), (5, .int x5), (6, .int (x6 + (iI 1)))]) rfl ?_
    exact hi (x6 + (iI 1), upL σ29 31 0 0 j31 v28) (Option.some.inj hf).symm
def b_M_copy_147 (x3 : Int32) (x4 : Int32) (x5 : Int32) (x6 : Int32) (σ : Sg) : Option ((Int32 × Sg) ⊕ (Sg)) :=
  (if x5 ≤ x6 then some (.inr σ) else Option.bind (rd x6 40) (fun j35 => Option.bind (rd ((((iI 40) * x3) + x4) + x6) 160) (fun j37 => some (.inl (x6 + (iI 1), upL σ 30 0 0 j37 (σ.2.1 31 0 0 j35))))))
theorem sb_M_copy_147 {x : Cx} {g : Gv} {ρ : Option Value × Sg} (hc : Zc x g c_M_copy R_M 7 (some .int) 2) (x3 : Int32) (x4 : Int32) (x5 : Int32) (x6 : Int32) (σ : Sg) (r : (Int32 × Sg) ⊕ (Sg)) (hf : b_M_copy_147 x3 x4 x5 x6 σ = some r) (hi : ∀ a', r = .inl a' → Z x g 7 ρ 147 [(0, .ref (gAd g (6, 0, 0))), (3, .int x3), (4, .int x4), (5, .int x5), (6, .int a'.1)] [] a'.2) (he0 : ∀ b, r = .inr b → Z x g 7 ρ 182 [(5, .int x5)] [] b) : Z x g 7 ρ 147 [(0, .ref (gAd g (6, 0, 0))), (3, .int x3), (4, .int x4), (5, .int x5), (6, .int x6)] [] σ := by
  unfold b_M_copy_147 at hf
  refine z_iload hc d_M_copy_147 4 rfl ?_
  refine z_iload hc d_M_copy_149 3 rfl ?_
  refine z_icmp_ge (tgt := 182) hc d_M_copy_151 (by decide) (fun hq => ?_) (fun hq => ?_)
  · have hf := ifp hq hf
    refine z_sub [3] (L' := [(5, .int x5)]) rfl ?_
    exact he0 σ (Option.some.inj hf).symm
  · have hf := ifn hq hf
    refine z_aload_n hc d_M_copy_154 0 rfl ?_
    refine gf_M_41 hc d_M_copy_155  ?_
    refine z_bipush (v := (iI 40)) hc d_M_copy_158 (by decide) ?_
    refine z_iload_n hc d_M_copy_160 1 rfl ?_
    refine z_imul hc d_M_copy_161 ?_
    refine z_iload hc d_M_copy_162 2 rfl ?_
    refine z_iadd hc d_M_copy_164 ?_
    refine z_iload hc d_M_copy_165 4 rfl ?_
    refine z_iadd hc d_M_copy_167 ?_
    refine z_aload_n hc d_M_copy_168 0 rfl ?_
    refine gf_M_45 hc d_M_copy_169  ?_
    refine z_iload hc d_M_copy_172 4 rfl ?_
    obtain ⟨j35, hj36, hf⟩ := bd hf
    refine ald_carried hc d_M_copy_174  hj36 ?_
    obtain ⟨j37, hj38, hf⟩ := bd hf
    refine ast_cells hc d_M_copy_175  hj38 ?_
    refine z_iinc (v := x6 + (iI 1)) (L' := [(6, .int (x6 + (iI 1))), (0, .ref (gAd g (6, 0, 0))), (3, .int x3), (4, .int x4), (5, .int x5)]) hc d_M_copy_176 4 rfl rfl (by decide) rfl ?_
    refine z_goto (tgt := 147) hc d_M_copy_179 (by decide) ?_
    refine z_sub [1, 2, 3, 4, 0] (L' := [(0, .ref (gAd g (6, 0, 0))), (3, .int x3), (4, .int x4), (5, .int x5), (6, .int (x6 + (iI 1)))]) rfl ?_
    exact hi (x6 + (iI 1), upL σ 30 0 0 j37 (σ.2.1 31 0 0 j35)) (Option.some.inj hf).symm
def f_M_copy (x1 : Int32) (x2 : Int32) (x3 : Int32) (x4 : Int32) (x5 : Int32) (σ : Sg) : Option (Int32 × Sg) :=
  b2 (f_M_isSheet x1 σ) (fun v1 σ2 => (if v1 = (iI 0) then j_M_copy_14   σ2 else b2 (f_M_isSheet x3 σ2) (fun v7 σ8 => (if v7 = (iI 0) then j_M_copy_14   σ8 else Option.bind (rd x1 4) (fun j10 => (if (σ8.1 28 0 0 j10) = (iI 0) then j_M_copy_38   σ8 else Option.bind (rd x3 4) (fun j15 => (if (σ8.1 28 0 0 j15) = (iI 0) then j_M_copy_38   σ8 else Option.bind (rd x1 4) (fun j17 => Option.bind (rd x3 4) (fun j19 => (if (σ8.1 28 0 0 j17) = (σ8.1 28 0 0 j19) then (if x5 < (iI 0) then j_M_copy_106   σ8 else (if x2 < (iI 0) then j_M_copy_106   σ8 else (if x4 < (iI 0) then j_M_copy_106   σ8 else Option.bind (rd x1 4) (fun j24 => (if ((σ8.1 29 0 0 j24) - x5) < x2 then j_M_copy_106   σ8 else Option.bind (rd x3 4) (fun j26 => (if x4 ≤ ((σ8.1 29 0 0 j26) - x5) then Option.bind (lp (fun a => b_M_copy_115 x1 x2 x3 x4 x5 a.1 a.2) FU ((iI 0), σ8)) (fun b43 => Option.bind (lp (fun a => b_M_copy_147 x3 x4 x5 a.1 a.2) FU ((iI 0), b43)) (fun b41 => some (x5, b41))) else j_M_copy_106   σ8))))))) else b2 (f_M_no (iI 2) σ8) (fun v45 σ46 => some (v45, σ46)))))))))))))
theorem ok_M_copy (g : Gv) (x1 : Int32) (x2 : Int32) (x3 : Int32) (x4 : Int32) (x5 : Int32) (σ : Sg) (r : Int32 × Sg) (hf : f_M_copy x1 x2 x3 x4 x5 σ = some r) : Ok g y_M_copy c_M_copy 7 (some .int) 2 [.ref (gAd g (6, 0, 0)), .int x1, .int x2, .int x3, .int x4, .int x5] σ (some (.int r.1), r.2) := by
  unfold f_M_copy at hf
  refine Ok.of [(0, .ref (gAd g (6, 0, 0))), (1, .int x1), (2, .int x2), (3, .int x3), (4, .int x4), (5, .int x5)] (by decide) (Nat.le_of_ble_eq_true rfl) rfl ?_
  intro x hc
  have hc : Zc x g c_M_copy R_M 7 (some .int) 2 := hc
  obtain ⟨ρ, hρ⟩ : ∃ ρ : Option Value × Sg, ρ = (some (.int r.1), r.2) := ⟨_, rfl⟩
  rw [← hρ]
  refine z_iload_n hc d_M_copy_0 1 rfl ?_
  obtain ⟨v1, σ2, h3, hf⟩ := bd2 hf
  refine cz_M_205 hc d_M_copy_1 (by decide)  h3 (Nat.le_of_ble_eq_true rfl) ?_
  refine z_if_eq (tgt := 14) hc d_M_copy_4 (by decide) (fun hq => ?_) (fun hq => ?_)
  · have hf := ifp hq hf
    refine z_sub [0] (L' := [(0, .ref (gAd g (6, 0, 0)))]) rfl ?_
    exact sj_M_copy_14 hc     σ2 _ hf hρ
  · have hf := ifn hq hf
    refine z_iload_n hc d_M_copy_7 3 rfl ?_
    obtain ⟨v7, σ8, h9, hf⟩ := bd2 hf
    refine cz_M_205 hc d_M_copy_8 (by decide)  h9 (Nat.le_of_ble_eq_true rfl) ?_
    refine z_if_ne (tgt := 20) hc d_M_copy_11 (by decide) (fun hq => ?_) (fun hq => ?_)
    · have hf := ifn hq hf
      refine z_aload_n hc d_M_copy_20 0 rfl ?_
      refine gf_M_35 hc d_M_copy_21  ?_
      refine z_iload_n hc d_M_copy_24 1 rfl ?_
      obtain ⟨j10, hj11, hf⟩ := bd hf
      refine ald_widths hc d_M_copy_25  hj11 ?_
      refine z_if_eq (tgt := 38) hc d_M_copy_26 (by decide) (fun hq => ?_) (fun hq => ?_)
      · have hf := ifp hq hf
        refine z_sub [0] (L' := [(0, .ref (gAd g (6, 0, 0)))]) rfl ?_
        exact sj_M_copy_38 hc     σ8 _ hf hρ
      · have hf := ifn hq hf
        refine z_aload_n hc d_M_copy_29 0 rfl ?_
        refine gf_M_35 hc d_M_copy_30  ?_
        refine z_iload_n hc d_M_copy_33 3 rfl ?_
        obtain ⟨j15, hj16, hf⟩ := bd hf
        refine ald_widths hc d_M_copy_34  hj16 ?_
        refine z_if_ne (tgt := 44) hc d_M_copy_35 (by decide) (fun hq => ?_) (fun hq => ?_)
        · have hf := ifn hq hf
          refine z_aload_n hc d_M_copy_44 0 rfl ?_
          refine gf_M_35 hc d_M_copy_45  ?_
          refine z_iload_n hc d_M_copy_48 1 rfl ?_
          obtain ⟨j17, hj18, hf⟩ := bd hf
          refine ald_widths hc d_M_copy_49  hj18 ?_
          refine z_aload_n hc d_M_copy_50 0 rfl ?_
          refine gf_M_35 hc d_M_copy_51  ?_
          refine z_iload_n hc d_M_copy_54 3 rfl ?_
          obtain ⟨j19, hj20, hf⟩ := bd hf
          refine ald_widths hc d_M_copy_55  hj20 ?_
          refine z_icmp_eq (tgt := 65) hc d_M_copy_56 (by decide) (fun hq => ?_) (fun hq => ?_)
          · have hf := ifp hq hf
            refine z_iload hc d_M_copy_65 5 rfl ?_
            refine z_if_lt (tgt := 106) hc d_M_copy_67 (by decide) (fun hq => ?_) (fun hq => ?_)
            · have hf := ifp hq hf
              refine z_sub [0] (L' := [(0, .ref (gAd g (6, 0, 0)))]) rfl ?_
              exact sj_M_copy_106 hc     σ8 _ hf hρ
            · have hf := ifn hq hf
              refine z_iload_n hc d_M_copy_70 2 rfl ?_
              refine z_if_lt (tgt := 106) hc d_M_copy_71 (by decide) (fun hq => ?_) (fun hq => ?_)
              · have hf := ifp hq hf
                refine z_sub [0] (L' := [(0, .ref (gAd g (6, 0, 0)))]) rfl ?_
                exact sj_M_copy_106 hc     σ8 _ hf hρ
              · have hf := ifn hq hf
                refine z_iload hc d_M_copy_74 4 rfl ?_
                refine z_if_lt (tgt := 106) hc d_M_copy_76 (by decide) (fun hq => ?_) (fun hq => ?_)
                · have hf := ifp hq hf
                  refine z_sub [0] (L' := [(0, .ref (gAd g (6, 0, 0)))]) rfl ?_
                  exact sj_M_copy_106 hc     σ8 _ hf hρ
                · have hf := ifn hq hf
                  refine z_iload_n hc d_M_copy_79 2 rfl ?_
                  refine z_aload_n hc d_M_copy_80 0 rfl ?_
                  refine gf_M_38 hc d_M_copy_81  ?_
                  refine z_iload_n hc d_M_copy_84 1 rfl ?_
                  obtain ⟨j24, hj25, hf⟩ := bd hf
                  refine ald_sizes hc d_M_copy_85  hj25 ?_
                  refine z_iload hc d_M_copy_86 5 rfl ?_
                  refine z_isub hc d_M_copy_88 ?_
                  refine z_icmp_gt (tgt := 106) hc d_M_copy_89 (by decide) (fun hq => ?_) (fun hq => ?_)
                  · have hf := ifp hq hf
                    refine z_sub [0] (L' := [(0, .ref (gAd g (6, 0, 0)))]) rfl ?_
                    exact sj_M_copy_106 hc     σ8 _ hf hρ
                  · have hf := ifn hq hf
                    refine z_iload hc d_M_copy_92 4 rfl ?_
                    refine z_aload_n hc d_M_copy_94 0 rfl ?_
                    refine gf_M_38 hc d_M_copy_95  ?_
                    refine z_iload_n hc d_M_copy_98 3 rfl ?_
                    obtain ⟨j26, hj27, hf⟩ := bd hf
                    refine ald_sizes hc d_M_copy_99  hj27 ?_
                    refine z_iload hc d_M_copy_100 5 rfl ?_
                    refine z_isub hc d_M_copy_102 ?_
                    refine z_icmp_le (tgt := 112) hc d_M_copy_103 (by decide) (fun hq => ?_) (fun hq => ?_)
                    · have hf := ifp hq hf
                      refine z_iconst (v := (iI 0)) hc d_M_copy_112 (by decide) ?_
                      refine z_istore (L' := [(6, .int (iI 0)), (0, .ref (gAd g (6, 0, 0))), (1, .int x1), (2, .int x2), (3, .int x3), (4, .int x4), (5, .int x5)]) hc d_M_copy_113 (by decide) rfl ?_
                      refine z_sub [1, 2, 3, 4, 5, 6, 0] (L' := [(0, .ref (gAd g (6, 0, 0))), (1, .int x1), (2, .int x2), (3, .int x3), (4, .int x4), (5, .int x5), (6, .int (iI 0))]) rfl ?_
                      obtain ⟨σ34, hl44, hf⟩ := bd hf
                      try dsimp only at hf
                      refine lp_walk (α := (Int32 × Sg)) (β := (Sg)) (body := (fun a : (Int32 × Sg) => b_M_copy_115 x1 x2 x3 x4 x5 a.1 a.2)) (In := (fun a : (Int32 × Sg) => Z x g 7 ρ 115 [(0, .ref (gAd g (6, 0, 0))), (1, .int x1), (2, .int x2), (3, .int x3), (4, .int x4), (5, .int x5), (6, .int a.1)] [] a.2)) (Out := (fun b => Z x g 7 ρ 144 [(0, .ref (gAd g (6, 0, 0))), (3, .int x3), (4, .int x4), (5, .int x5)] [] b)) (fun a r hb hi ho => sb_M_copy_115 hc x1 x2 x3 x4 x5  a.1 a.2 r hb hi (fun b e => ho _ e)) FU ((iI 0), σ8) _ hl44 ?_
                      refine z_iconst (v := (iI 0)) hc d_M_copy_144 (by decide) ?_
                      refine z_istore (L' := [(6, .int (iI 0)), (0, .ref (gAd g (6, 0, 0))), (3, .int x3), (4, .int x4), (5, .int x5)]) hc d_M_copy_145 (by decide) rfl ?_
                      refine z_sub [1, 2, 3, 4, 0] (L' := [(0, .ref (gAd g (6, 0, 0))), (3, .int x3), (4, .int x4), (5, .int x5), (6, .int (iI 0))]) rfl ?_
                      obtain ⟨σ40, hl42, hf⟩ := bd hf
                      try dsimp only at hf
                      refine lp_walk (α := (Int32 × Sg)) (β := (Sg)) (body := (fun a : (Int32 × Sg) => b_M_copy_147 x3 x4 x5 a.1 a.2)) (In := (fun a : (Int32 × Sg) => Z x g 7 ρ 147 [(0, .ref (gAd g (6, 0, 0))), (3, .int x3), (4, .int x4), (5, .int x5), (6, .int a.1)] [] a.2)) (Out := (fun b => Z x g 7 ρ 182 [(5, .int x5)] [] b)) (fun a r hb hi ho => sb_M_copy_147 hc x3 x4 x5  a.1 a.2 r hb hi (fun b e => ho _ e)) FU ((iI 0), σ34) _ hl42 ?_
                      refine z_iload hc d_M_copy_182 0 rfl ?_
                      exact z_iret hc d_M_copy_184 (rI hf hρ)
                    · have hf := ifn hq hf
                      refine z_sub [0] (L' := [(0, .ref (gAd g (6, 0, 0)))]) rfl ?_
                      exact sj_M_copy_106 hc     σ8 _ hf hρ
          · have hf := ifn hq hf
            refine z_aload_n hc d_M_copy_59 0 rfl ?_
            refine z_iconst (v := (iI 2)) hc d_M_copy_60 (by decide) ?_
            obtain ⟨v45, σ46, h47, hf⟩ := bd2 hf
            refine cz_M_92 hc d_M_copy_61 (by decide)  h47 (Nat.le_of_ble_eq_true rfl) ?_
            exact z_iret hc d_M_copy_64 (rI hf hρ)
        · have hf := ifp hq hf
          refine z_sub [0] (L' := [(0, .ref (gAd g (6, 0, 0)))]) rfl ?_
          exact sj_M_copy_38 hc     σ8 _ hf hρ
    · have hf := ifp hq hf
      refine z_sub [0] (L' := [(0, .ref (gAd g (6, 0, 0)))]) rfl ?_
      exact sj_M_copy_14 hc     σ8 _ hf hρ
def j_M_lays_103 (x1 : Int32) (x3 : Int32) (x4 : Int32) (x5 : Int32) (xs0 : Int32) (xs1 : Int32) (xs2 : Int32) (σ : Sg) : Option ((Int32 × Int32 × Sg) ⊕ (Int32 × Sg)) :=
  b2 (f_M_puts xs2 xs1 xs0 σ) (fun v14 σ15 => (if x5 = (iI 0) then some (.inl (x3 + (iI 0), x4 + (iI 1), σ15)) else some (.inl (x3 + (iI 1), x4 + (iI 1), σ15))))
theorem sj_M_lays_103 {x : Cx} {g : Gv} {ρ : Option Value × Sg} (hc : Zc x g c_M_lays R_M 6 (some .int) 3) (x1 : Int32) (x3 : Int32) (x4 : Int32) (x5 : Int32) (xs0 : Int32) (xs1 : Int32) (xs2 : Int32) (σ : Sg) (r : (Int32 × Int32 × Sg) ⊕ (Int32 × Sg)) (hf : j_M_lays_103 x1 x3 x4 x5 xs0 xs1 xs2 σ = some r) (hi : ∀ a', r = .inl a' → Z x g 6 ρ 21 [(0, .ref (gAd g (6, 0, 0))), (1, .int x1), (3, .int a'.1), (4, .int a'.2.1)] [] a'.2.2) (he0 : ∀ b, r = .inr b → Z x g 6 ρ 125 [(3, .int b.1)] [] b.2) : Z x g 6 ρ 103 [(0, .ref (gAd g (6, 0, 0))), (1, .int x1), (3, .int x3), (4, .int x4), (5, .int x5)] [.int xs0, .int xs1, .int xs2, .ref (gAd g (6, 0, 0))] σ := by
  unfold j_M_lays_103 at hf
  obtain ⟨v14, σ15, h16, hf⟩ := bd2 hf
  refine cz_M_78 hc d_M_lays_103 (by decide)  h16 (Nat.le_of_ble_eq_true rfl) ?_
  refine z_iload_n hc d_M_lays_106 2 rfl ?_
  refine z_iload hc d_M_lays_107 4 rfl ?_
  refine z_if_eq (tgt := 116) hc d_M_lays_109 (by decide) (fun hq => ?_) (fun hq => ?_)
  · have hf := ifp hq hf
    refine z_iconst (v := (iI 0)) hc d_M_lays_116 (by decide) ?_
    refine z_iadd hc d_M_lays_117 ?_
    refine z_istore_n (L' := [(3, .int (x3 + (iI 0))), (0, .ref (gAd g (6, 0, 0))), (1, .int x1), (4, .int x4), (5, .int x5)]) hc d_M_lays_118 (by decide) rfl ?_
    refine z_iinc (v := x4 + (iI 1)) (L' := [(4, .int (x4 + (iI 1))), (3, .int (x3 + (iI 0))), (0, .ref (gAd g (6, 0, 0))), (1, .int x1), (5, .int x5)]) hc d_M_lays_119 3 rfl rfl (by decide) rfl ?_
    refine z_goto (tgt := 21) hc d_M_lays_122 (by decide) ?_
    refine z_sub [2, 3, 1, 0] (L' := [(0, .ref (gAd g (6, 0, 0))), (1, .int x1), (3, .int (x3 + (iI 0))), (4, .int (x4 + (iI 1)))]) rfl ?_
    exact hi (x3 + (iI 0), x4 + (iI 1), σ15) (Option.some.inj hf).symm
  · have hf := ifn hq hf
    refine z_iconst (v := (iI 1)) hc d_M_lays_112 (by decide) ?_
    refine z_goto (tgt := 117) hc d_M_lays_113 (by decide) ?_
    refine z_iadd hc d_M_lays_117 ?_
    refine z_istore_n (L' := [(3, .int (x3 + (iI 1))), (0, .ref (gAd g (6, 0, 0))), (1, .int x1), (4, .int x4), (5, .int x5)]) hc d_M_lays_118 (by decide) rfl ?_
    refine z_iinc (v := x4 + (iI 1)) (L' := [(4, .int (x4 + (iI 1))), (3, .int (x3 + (iI 1))), (0, .ref (gAd g (6, 0, 0))), (1, .int x1), (5, .int x5)]) hc d_M_lays_119 3 rfl rfl (by decide) rfl ?_
    refine z_goto (tgt := 21) hc d_M_lays_122 (by decide) ?_
    refine z_sub [2, 3, 1, 0] (L' := [(0, .ref (gAd g (6, 0, 0))), (1, .int x1), (3, .int (x3 + (iI 1))), (4, .int (x4 + (iI 1)))]) rfl ?_
    exact hi (x3 + (iI 1), x4 + (iI 1), σ15) (Option.some.inj hf).symm
def j_M_lays_74 (x1 : Int32) (x3 : Int32) (x4 : Int32) (xs0 : Int32) (σ : Sg) : Option ((Int32 × Int32 × Sg) ⊕ (Int32 × Sg)) :=
  (if xs0 = (iI 0) then b2 (f_M_get x4 (iI 3) σ) (fun v11 σ12 => j_M_lays_103 x1 x3 x4 xs0 v11 (iI 3) x4 σ12) else b2 (f_M_told x1 x4 σ) (fun v17 σ18 => j_M_lays_103 x1 x3 x4 xs0 ((v17 : Int64).toInt32) (iI 3) x4 σ18))
theorem sj_M_lays_74 {x : Cx} {g : Gv} {ρ : Option Value × Sg} (hc : Zc x g c_M_lays R_M 6 (some .int) 3) (x1 : Int32) (x3 : Int32) (x4 : Int32) (xs0 : Int32) (σ : Sg) (r : (Int32 × Int32 × Sg) ⊕ (Int32 × Sg)) (hf : j_M_lays_74 x1 x3 x4 xs0 σ = some r) (hi : ∀ a', r = .inl a' → Z x g 6 ρ 21 [(0, .ref (gAd g (6, 0, 0))), (1, .int x1), (3, .int a'.1), (4, .int a'.2.1)] [] a'.2.2) (he0 : ∀ b, r = .inr b → Z x g 6 ρ 125 [(3, .int b.1)] [] b.2) : Z x g 6 ρ 74 [(0, .ref (gAd g (6, 0, 0))), (1, .int x1), (3, .int x3), (4, .int x4)] [.int xs0] σ := by
  unfold j_M_lays_74 at hf
  refine z_istore (L' := [(5, .int xs0), (0, .ref (gAd g (6, 0, 0))), (1, .int x1), (3, .int x3), (4, .int x4)]) hc d_M_lays_74 (by decide) rfl ?_
  refine z_aload_n hc d_M_lays_76 1 rfl ?_
  refine z_iload hc d_M_lays_77 4 rfl ?_
  refine z_iconst (v := (iI 3)) hc d_M_lays_79 (by decide) ?_
  refine z_iload hc d_M_lays_80 0 rfl ?_
  refine z_if_eq (tgt := 96) hc d_M_lays_82 (by decide) (fun hq => ?_) (fun hq => ?_)
  · have hf := ifp hq hf
    refine z_aload_n hc d_M_lays_96 1 rfl ?_
    refine z_iload hc d_M_lays_97 4 rfl ?_
    refine z_iconst (v := (iI 3)) hc d_M_lays_99 (by decide) ?_
    obtain ⟨v11, σ12, h13, hf⟩ := bd2 hf
    refine cz_M_53 hc d_M_lays_100 (by decide)  h13 (Nat.le_of_ble_eq_true rfl) ?_
    refine z_sub [1, 2, 3, 4, 0] (L' := [(0, .ref (gAd g (6, 0, 0))), (1, .int x1), (3, .int x3), (4, .int x4), (5, .int xs0)]) rfl ?_
    exact sj_M_lays_103 hc x1 x3 x4 xs0 v11 (iI 3) x4   σ12 _ hf hi he0
  · have hf := ifn hq hf
    refine z_aload_n hc d_M_lays_85 1 rfl ?_
    refine z_iload_n hc d_M_lays_86 2 rfl ?_
    refine z_iload hc d_M_lays_87 4 rfl ?_
    obtain ⟨v17, σ18, h19, hf⟩ := bd2 hf
    refine cz_M_211 hc d_M_lays_89 (by decide)  h19 (Nat.le_of_ble_eq_true rfl) ?_
    refine z_l2i hc d_M_lays_92 ?_
    refine z_goto (tgt := 103) hc d_M_lays_93 (by decide) ?_
    refine z_sub [1, 2, 3, 4, 0] (L' := [(0, .ref (gAd g (6, 0, 0))), (1, .int x1), (3, .int x3), (4, .int x4), (5, .int xs0)]) rfl ?_
    exact sj_M_lays_103 hc x1 x3 x4 xs0 ((v17 : Int64).toInt32) (iI 3) x4   σ18 _ hf hi he0
def b_M_lays_21 (x1 : Int32) (x3 : Int32) (x4 : Int32) (σ : Sg) : Option ((Int32 × Int32 × Sg) ⊕ (Int32 × Sg)) :=
  Option.bind (rd x1 4) (fun j4 => (if (σ.1 29 0 0 j4) ≤ x4 then some (.inr (x3, σ)) else Option.bind (rd (iI 2) 66) (fun j6 => (if (σ.1 20 0 0 j6) ≤ x4 then some (.inr (x3, σ)) else b2 (f_M_told x1 x4 σ) (fun v8 σ9 => (if (lg_cmp v8 (lI 0)) < (iI 0) then j_M_lays_74 x1 x3 x4 (iI 0) σ9 else b2 (f_M_told x1 x4 σ9) (fun v20 σ21 => (if (iI 0) < (lg_cmp v20 (lI 99)) then j_M_lays_74 x1 x3 x4 (iI 0) σ21 else j_M_lays_74 x1 x3 x4 (iI 1) σ21))))))))
theorem sb_M_lays_21 {x : Cx} {g : Gv} {ρ : Option Value × Sg} (hc : Zc x g c_M_lays R_M 6 (some .int) 3) (x1 : Int32) (x3 : Int32) (x4 : Int32) (σ : Sg) (r : (Int32 × Int32 × Sg) ⊕ (Int32 × Sg)) (hf : b_M_lays_21 x1 x3 x4 σ = some r) (hi : ∀ a', r = .inl a' → Z x g 6 ρ 21 [(0, .ref (gAd g (6, 0, 0))), (1, .int x1), (3, .int a'.1), (4, .int a'.2.1)] [] a'.2.2) (he0 : ∀ b, r = .inr b → Z x g 6 ρ 125 [(3, .int b.1)] [] b.2) : Z x g 6 ρ 21 [(0, .ref (gAd g (6, 0, 0))), (1, .int x1), (3, .int x3), (4, .int x4)] [] σ := by
  unfold b_M_lays_21 at hf
  refine z_iload hc d_M_lays_21 3 rfl ?_
  refine z_aload_n hc d_M_lays_23 0 rfl ?_
  refine gf_M_38 hc d_M_lays_24  ?_
  refine z_iload_n hc d_M_lays_27 1 rfl ?_
  obtain ⟨j4, hj5, hf⟩ := bd hf
  refine ald_sizes hc d_M_lays_28  hj5 ?_
  refine z_icmp_ge (tgt := 125) hc d_M_lays_29 (by decide) (fun hq => ?_) (fun hq => ?_)
  · have hf := ifp hq hf
    refine z_sub [2] (L' := [(3, .int x3)]) rfl ?_
    exact he0 (x3, σ) (Option.some.inj hf).symm
  · have hf := ifn hq hf
    refine z_iload hc d_M_lays_32 3 rfl ?_
    refine z_aload_n hc d_M_lays_34 0 rfl ?_
    refine gf_M_9 hc d_M_lays_35  ?_
    refine z_iconst (v := (iI 2)) hc d_M_lays_38 (by decide) ?_
    obtain ⟨j6, hj7, hf⟩ := bd hf
    refine ald_ms hc d_M_lays_39  hj7 ?_
    refine z_icmp_ge (tgt := 125) hc d_M_lays_40 (by decide) (fun hq => ?_) (fun hq => ?_)
    · have hf := ifp hq hf
      refine z_sub [2] (L' := [(3, .int x3)]) rfl ?_
      exact he0 (x3, σ) (Option.some.inj hf).symm
    · have hf := ifn hq hf
      refine z_aload_n hc d_M_lays_43 0 rfl ?_
      refine z_iload_n hc d_M_lays_44 1 rfl ?_
      refine z_iload hc d_M_lays_45 3 rfl ?_
      obtain ⟨v8, σ9, h10, hf⟩ := bd2 hf
      refine cz_M_211 hc d_M_lays_47 (by decide)  h10 (Nat.le_of_ble_eq_true rfl) ?_
      refine z_lconst (v := (lI 0)) hc d_M_lays_50 (by decide) ?_
      refine z_lcmp hc d_M_lays_51 ?_
      refine z_if_lt (tgt := 73) hc d_M_lays_52 (by decide) (fun hq => ?_) (fun hq => ?_)
      · have hf := ifp hq hf
        refine z_iconst (v := (iI 0)) hc d_M_lays_73 (by decide) ?_
        refine z_sub [0, 1, 2, 3] (L' := [(0, .ref (gAd g (6, 0, 0))), (1, .int x1), (3, .int x3), (4, .int x4)]) rfl ?_
        exact sj_M_lays_74 hc x1 x3 x4 (iI 0)   σ9 _ hf hi he0
      · have hf := ifn hq hf
        refine z_aload_n hc d_M_lays_55 0 rfl ?_
        refine z_iload_n hc d_M_lays_56 1 rfl ?_
        refine z_iload hc d_M_lays_57 3 rfl ?_
        obtain ⟨v20, σ21, h22, hf⟩ := bd2 hf
        refine cz_M_211 hc d_M_lays_59 (by decide)  h22 (Nat.le_of_ble_eq_true rfl) ?_
        refine z_ldc2 (v := (lI 99)) hc cl_M_219 d_M_lays_62 ?_
        refine z_lcmp hc d_M_lays_65 ?_
        refine z_if_gt (tgt := 73) hc d_M_lays_66 (by decide) (fun hq => ?_) (fun hq => ?_)
        · have hf := ifp hq hf
          refine z_iconst (v := (iI 0)) hc d_M_lays_73 (by decide) ?_
          refine z_sub [0, 1, 2, 3] (L' := [(0, .ref (gAd g (6, 0, 0))), (1, .int x1), (3, .int x3), (4, .int x4)]) rfl ?_
          exact sj_M_lays_74 hc x1 x3 x4 (iI 0)   σ21 _ hf hi he0
        · have hf := ifn hq hf
          refine z_iconst (v := (iI 1)) hc d_M_lays_69 (by decide) ?_
          refine z_goto (tgt := 74) hc d_M_lays_70 (by decide) ?_
          refine z_sub [0, 1, 2, 3] (L' := [(0, .ref (gAd g (6, 0, 0))), (1, .int x1), (3, .int x3), (4, .int x4)]) rfl ?_
          exact sj_M_lays_74 hc x1 x3 x4 (iI 1)   σ21 _ hf hi he0
def f_M_lays (x1 : Int32) (σ : Sg) : Option (Int32 × Sg) :=
  b2 (f_M_wrongSheet x1 σ) (fun v1 σ2 => (if v1 < (iI 0) then Option.bind (lp (fun a => b_M_lays_21 x1 a.1 a.2.1 a.2.2) FU ((iI 0), (iI 0), σ2)) (fun b26 => some (b26.1, b26.2)) else b2 (f_M_no v1 σ2) (fun v28 σ29 => some (v28, σ29))))
theorem ok_M_lays (g : Gv) (x1 : Int32) (σ : Sg) (r : Int32 × Sg) (hf : f_M_lays x1 σ = some r) : Ok g y_M_lays c_M_lays 6 (some .int) 3 [.ref (gAd g (6, 0, 0)), .int x1] σ (some (.int r.1), r.2) := by
  unfold f_M_lays at hf
  refine Ok.of [(0, .ref (gAd g (6, 0, 0))), (1, .int x1)] (by decide) (Nat.le_of_ble_eq_true rfl) rfl ?_
  intro x hc
  have hc : Zc x g c_M_lays R_M 6 (some .int) 3 := hc
  obtain ⟨ρ, hρ⟩ : ∃ ρ : Option Value × Sg, ρ = (some (.int r.1), r.2) := ⟨_, rfl⟩
  rw [← hρ]
  refine z_aload_n hc d_M_lays_0 0 rfl ?_
  refine z_iload_n hc d_M_lays_1 1 rfl ?_
  obtain ⟨v1, σ2, h3, hf⟩ := bd2 hf
  refine cz_M_208 hc d_M_lays_2 (by decide)  h3 (Nat.le_of_ble_eq_true rfl) ?_
  refine z_istore_n (L' := [(2, .int v1), (0, .ref (gAd g (6, 0, 0))), (1, .int x1)]) hc d_M_lays_5 (by decide) rfl ?_
  refine z_iload_n hc d_M_lays_6 0 rfl ?_
  refine z_if_lt (tgt := 16) hc d_M_lays_7 (by decide) (fun hq => ?_) (fun hq => ?_)
  · have hf := ifp hq hf
    refine z_iconst (v := (iI 0)) hc d_M_lays_16 (by decide) ?_
    refine z_istore_n (L' := [(3, .int (iI 0)), (2, .int v1), (0, .ref (gAd g (6, 0, 0))), (1, .int x1)]) hc d_M_lays_17 (by decide) rfl ?_
    refine z_iconst (v := (iI 0)) hc d_M_lays_18 (by decide) ?_
    refine z_istore (L' := [(4, .int (iI 0)), (3, .int (iI 0)), (2, .int v1), (0, .ref (gAd g (6, 0, 0))), (1, .int x1)]) hc d_M_lays_19 (by decide) rfl ?_
    refine z_sub [3, 4, 1, 0] (L' := [(0, .ref (gAd g (6, 0, 0))), (1, .int x1), (3, .int (iI 0)), (4, .int (iI 0))]) rfl ?_
    obtain ⟨⟨y24, σ25⟩, hl27, hf⟩ := bd hf
    try dsimp only at hf
    refine lp_walk (α := (Int32 × Int32 × Sg)) (β := (Int32 × Sg)) (body := (fun a : (Int32 × Int32 × Sg) => b_M_lays_21 x1 a.1 a.2.1 a.2.2)) (In := (fun a : (Int32 × Int32 × Sg) => Z x g 6 ρ 21 [(0, .ref (gAd g (6, 0, 0))), (1, .int x1), (3, .int a.1), (4, .int a.2.1)] [] a.2.2)) (Out := (fun b => Z x g 6 ρ 125 [(3, .int b.1)] [] b.2)) (fun a r hb hi ho => sb_M_lays_21 hc x1  a.1 a.2.1 a.2.2 r hb hi (fun b e => ho _ e)) FU ((iI 0), (iI 0), σ2) _ hl27 ?_
    dsimp only
    refine z_iload_n hc d_M_lays_125 0 rfl ?_
    exact z_iret hc d_M_lays_126 (rI hf hρ)
  · have hf := ifn hq hf
    refine z_aload_n hc d_M_lays_10 1 rfl ?_
    refine z_iload_n hc d_M_lays_11 0 rfl ?_
    obtain ⟨v28, σ29, h30, hf⟩ := bd2 hf
    refine cz_M_92 hc d_M_lays_12 (by decide)  h30 (Nat.le_of_ble_eq_true rfl) ?_
    exact z_iret hc d_M_lays_15 (rI hf hρ)
def f_M_wrongWith (x1 : Int32) (x2 : Int32) (σ : Sg) : Option (Int32 × Sg) :=
  b2 (f_M_wrongSheet x1 σ) (fun v1 σ2 => (if v1 < (iI 0) then b2 (f_M_isCarpet x2 σ2) (fun v4 σ5 => (if v4 = (iI 0) then some ((iI 0), σ5) else some ((iI (-1)), σ5))) else some (v1, σ2)))
theorem ok_M_wrongWith (g : Gv) (x1 : Int32) (x2 : Int32) (σ : Sg) (r : Int32 × Sg) (hf : f_M_wrongWith x1 x2 σ = some r) : Ok g y_M_wrongWith c_M_wrongWith 4 (some .int) 3 [.ref (gAd g (6, 0, 0)), .int x1, .int x2] σ (some (.int r.1), r.2) := by
  unfold f_M_wrongWith at hf
  refine Ok.of [(0, .ref (gAd g (6, 0, 0))), (1, .int x1), (2, .int x2)] (by decide) (Nat.le_of_ble_eq_true rfl) rfl ?_
  intro x hc
  have hc : Zc x g c_M_wrongWith R_M 4 (some .int) 3 := hc
  obtain ⟨ρ, hρ⟩ : ∃ ρ : Option Value × Sg, ρ = (some (.int r.1), r.2) := ⟨_, rfl⟩
  rw [← hρ]
  refine z_aload_n hc d_M_wrongWith_0 0 rfl ?_
  refine z_iload_n hc d_M_wrongWith_1 1 rfl ?_
  obtain ⟨v1, σ2, h3, hf⟩ := bd2 hf
  refine cz_M_208 hc d_M_wrongWith_2 (by decide)  h3 (Nat.le_of_ble_eq_true rfl) ?_
  refine z_istore_n (L' := [(3, .int v1), (0, .ref (gAd g (6, 0, 0))), (1, .int x1), (2, .int x2)]) hc d_M_wrongWith_5 (by decide) rfl ?_
  refine z_iload_n hc d_M_wrongWith_6 0 rfl ?_
  refine z_if_lt (tgt := 14) hc d_M_wrongWith_7 (by decide) (fun hq => ?_) (fun hq => ?_)
  · have hf := ifp hq hf
    refine z_aload_n hc d_M_wrongWith_14 1 rfl ?_
    refine z_iload_n hc d_M_wrongWith_15 3 rfl ?_
    obtain ⟨v4, σ5, h6, hf⟩ := bd2 hf
    refine cz_M_113 hc d_M_wrongWith_16 (by decide)  h6 (Nat.le_of_ble_eq_true rfl) ?_
    refine z_if_eq (tgt := 26) hc d_M_wrongWith_19 (by decide) (fun hq => ?_) (fun hq => ?_)
    · have hf := ifp hq hf
      refine z_iconst (v := (iI 0)) hc d_M_wrongWith_26 (by decide) ?_
      exact z_iret hc d_M_wrongWith_27 (rI hf hρ)
    · have hf := ifn hq hf
      refine z_iconst (v := (iI (-1))) hc d_M_wrongWith_22 (by decide) ?_
      refine z_goto (tgt := 27) hc d_M_wrongWith_23 (by decide) ?_
      exact z_iret hc d_M_wrongWith_27 (rI hf hρ)
  · have hf := ifn hq hf
    refine z_iload_n hc d_M_wrongWith_10 0 rfl ?_
    refine z_goto (tgt := 27) hc d_M_wrongWith_11 (by decide) ?_
    exact z_iret hc d_M_wrongWith_27 (rI hf hρ)
theorem vl_M_221 : VL R_M 221 y_M_wrongWith c_M_wrongWith 4 (some .int) 2 := ⟨tb6 14 (by decide +kernel) (by decide +kernel), tb6 16 (by decide +kernel) (by decide +kernel), tbp 45 (by decide +kernel), tb1 12 (by decide +kernel) (by decide +kernel), k_M_wrongWith, by decide, by decide, by decide +kernel, by decide⟩
theorem cz_M_221 {x : Cx} {g : Gv} {cc : ByteArray} {nL d pc : Nat} {ret : Option FieldType} {ρ : Option Value × Sg} {L : List (Nat × Value)} {st : List Value} {σ : Sg} (hc : Zc x g cc R_M nL ret d) (hd : decode cc pc = .ok (.invokevirtual 221, 3)) (hdd : 4 ≤ d) {x1 : Int32} {x2 : Int32} {v : Int32} {σ1 : Sg} (hf : f_M_wrongWith x1 x2 σ = some (v, σ1)) (hst : (st.map (fun v => v.category)).sum ≤ 8) (k : Z x g nL ρ (pc + 3) L (.int v :: st) σ1) : Z x g nL ρ pc L (.int x2 :: .int x1 :: .ref (gAd g (6, 0, 0)) :: st) σ := z_callV (ci := 11) (As := [.int x1, .int x2]) hc hd vl_M_221 hdd (6, 0, 0) (dm_M) rfl rfl (ok_M_wrongWith g x1 x2 σ (v, σ1) hf) rfl rfl hst rfl k
def b_M_book_24 (x1 : Int32) (x2 : Int32) (x4 : Int32) (σ : Sg) : Option ((Int32 × Sg) ⊕ (Sg)) :=
  Option.bind (rd x1 4) (fun j7 => (if (σ.1 29 0 0 j7) ≤ x4 then some (.inr σ) else b2 (f_M_get x2 (iI 3) σ) (fun v9 σ10 => b2 (f_M_tells x1 x4 ((v9 : Int32).toInt64) σ10) (fun v12 σ13 => b2 (f_M_goes (iI 1) σ13) (fun v15 σ16 => some (.inl (x4 + (iI 1), σ16)))))))
theorem sb_M_book_24 {x : Cx} {g : Gv} {ρ : Option Value × Sg} (hc : Zc x g c_M_book R_M 5 (some .int) 4) (x1 : Int32) (x2 : Int32) (x4 : Int32) (σ : Sg) (r : (Int32 × Sg) ⊕ (Sg)) (hf : b_M_book_24 x1 x2 x4 σ = some r) (hi : ∀ a', r = .inl a' → Z x g 5 ρ 24 [(0, .ref (gAd g (6, 0, 0))), (1, .int x1), (2, .int x2), (4, .int a'.1)] [] a'.2) (he0 : ∀ b, r = .inr b → Z x g 5 ρ 60 [(0, .ref (gAd g (6, 0, 0))), (1, .int x1)] [] b) : Z x g 5 ρ 24 [(0, .ref (gAd g (6, 0, 0))), (1, .int x1), (2, .int x2), (4, .int x4)] [] σ := by
  unfold b_M_book_24 at hf
  refine z_iload hc d_M_book_24 3 rfl ?_
  refine z_aload_n hc d_M_book_26 0 rfl ?_
  refine gf_M_38 hc d_M_book_27  ?_
  refine z_iload_n hc d_M_book_30 1 rfl ?_
  obtain ⟨j7, hj8, hf⟩ := bd hf
  refine ald_sizes hc d_M_book_31  hj8 ?_
  refine z_icmp_ge (tgt := 60) hc d_M_book_32 (by decide) (fun hq => ?_) (fun hq => ?_)
  · have hf := ifp hq hf
    refine z_sub [0, 1] (L' := [(0, .ref (gAd g (6, 0, 0))), (1, .int x1)]) rfl ?_
    exact he0 σ (Option.some.inj hf).symm
  · have hf := ifn hq hf
    refine z_aload_n hc d_M_book_35 0 rfl ?_
    refine z_iload_n hc d_M_book_36 1 rfl ?_
    refine z_iload hc d_M_book_37 3 rfl ?_
    refine z_aload_n hc d_M_book_39 0 rfl ?_
    refine z_iload_n hc d_M_book_40 2 rfl ?_
    refine z_iconst (v := (iI 3)) hc d_M_book_41 (by decide) ?_
    obtain ⟨v9, σ10, h11, hf⟩ := bd2 hf
    refine cz_M_53 hc d_M_book_42 (by decide)  h11 (Nat.le_of_ble_eq_true rfl) ?_
    refine z_i2l hc d_M_book_45 ?_
    obtain ⟨v12, σ13, h14, hf⟩ := bd2 hf
    refine cz_M_215 hc d_M_book_46 (by decide)  h14 (Nat.le_of_ble_eq_true rfl) ?_
    refine z_aload_n hc d_M_book_49 0 rfl ?_
    refine z_iconst (v := (iI 1)) hc d_M_book_50 (by decide) ?_
    obtain ⟨v15, σ16, h17, hf⟩ := bd2 hf
    refine cz_M_123 hc d_M_book_51 (by decide)  h17 (Nat.le_of_ble_eq_true rfl) ?_
    refine z_iinc (v := x4 + (iI 1)) (L' := [(4, .int (x4 + (iI 1))), (0, .ref (gAd g (6, 0, 0))), (1, .int x1), (2, .int x2)]) hc d_M_book_54 3 rfl rfl (by decide) rfl ?_
    refine z_goto (tgt := 24) hc d_M_book_57 (by decide) ?_
    refine z_sub [1, 2, 3, 0] (L' := [(0, .ref (gAd g (6, 0, 0))), (1, .int x1), (2, .int x2), (4, .int (x4 + (iI 1)))]) rfl ?_
    exact hi (x4 + (iI 1), σ16) (Option.some.inj hf).symm
def f_M_book (x1 : Int32) (x2 : Int32) (σ : Sg) : Option (Int32 × Sg) :=
  b2 (f_M_wrongWith x1 x2 σ) (fun v1 σ2 => (if v1 < (iI 0) then b2 (f_M_setsAside  σ2) (fun v4 σ5 => Option.bind (lp (fun a => b_M_book_24 x1 x2 a.1 a.2) FU ((iI 0), σ5)) (fun b25 => b2 (f_M_laysBack  b25) (fun v20 σ21 => Option.bind (rd x1 4) (fun j23 => some (σ21.1 29 0 0 j23, σ21))))) else b2 (f_M_no v1 σ2) (fun v27 σ28 => some (v27, σ28))))
theorem ok_M_book (g : Gv) (x1 : Int32) (x2 : Int32) (σ : Sg) (r : Int32 × Sg) (hf : f_M_book x1 x2 σ = some r) : Ok g y_M_book c_M_book 5 (some .int) 4 [.ref (gAd g (6, 0, 0)), .int x1, .int x2] σ (some (.int r.1), r.2) := by
  unfold f_M_book at hf
  refine Ok.of [(0, .ref (gAd g (6, 0, 0))), (1, .int x1), (2, .int x2)] (by decide) (Nat.le_of_ble_eq_true rfl) rfl ?_
  intro x hc
  have hc : Zc x g c_M_book R_M 5 (some .int) 4 := hc
  obtain ⟨ρ, hρ⟩ : ∃ ρ : Option Value × Sg, ρ = (some (.int r.1), r.2) := ⟨_, rfl⟩
  rw [← hρ]
  refine z_aload_n hc d_M_book_0 0 rfl ?_
  refine z_iload_n hc d_M_book_1 1 rfl ?_
  refine z_iload_n hc d_M_book_2 2 rfl ?_
  obtain ⟨v1, σ2, h3, hf⟩ := bd2 hf
  refine cz_M_221 hc d_M_book_3 (by decide)  h3 (Nat.le_of_ble_eq_true rfl) ?_
  refine z_istore_n (L' := [(3, .int v1), (0, .ref (gAd g (6, 0, 0))), (1, .int x1), (2, .int x2)]) hc d_M_book_6 (by decide) rfl ?_
  refine z_iload_n hc d_M_book_7 0 rfl ?_
  refine z_if_lt (tgt := 17) hc d_M_book_8 (by decide) (fun hq => ?_) (fun hq => ?_)
  · have hf := ifp hq hf
    refine z_aload_n hc d_M_book_17 1 rfl ?_
    obtain ⟨v4, σ5, h6, hf⟩ := bd2 hf
    refine cz_M_126 hc d_M_book_18 (by decide)  h6 (Nat.le_of_ble_eq_true rfl) ?_
    refine z_iconst (v := (iI 0)) hc d_M_book_21 (by decide) ?_
    refine z_istore (L' := [(4, .int (iI 0)), (3, .int v1), (0, .ref (gAd g (6, 0, 0))), (1, .int x1), (2, .int x2)]) hc d_M_book_22 (by decide) rfl ?_
    refine z_sub [2, 3, 4, 0] (L' := [(0, .ref (gAd g (6, 0, 0))), (1, .int x1), (2, .int x2), (4, .int (iI 0))]) rfl ?_
    obtain ⟨σ19, hl26, hf⟩ := bd hf
    try dsimp only at hf
    refine lp_walk (α := (Int32 × Sg)) (β := (Sg)) (body := (fun a : (Int32 × Sg) => b_M_book_24 x1 x2 a.1 a.2)) (In := (fun a : (Int32 × Sg) => Z x g 5 ρ 24 [(0, .ref (gAd g (6, 0, 0))), (1, .int x1), (2, .int x2), (4, .int a.1)] [] a.2)) (Out := (fun b => Z x g 5 ρ 60 [(0, .ref (gAd g (6, 0, 0))), (1, .int x1)] [] b)) (fun a r hb hi ho => sb_M_book_24 hc x1 x2  a.1 a.2 r hb hi (fun b e => ho _ e)) FU ((iI 0), σ5) _ hl26 ?_
    refine z_aload_n hc d_M_book_60 0 rfl ?_
    obtain ⟨v20, σ21, h22, hf⟩ := bd2 hf
    refine cz_M_129 hc d_M_book_61 (by decide)  h22 (Nat.le_of_ble_eq_true rfl) ?_
    refine z_aload_n hc d_M_book_64 0 rfl ?_
    refine gf_M_38 hc d_M_book_65  ?_
    refine z_iload_n hc d_M_book_68 1 rfl ?_
    obtain ⟨j23, hj24, hf⟩ := bd hf
    refine ald_sizes hc d_M_book_69  hj24 ?_
    exact z_iret hc d_M_book_70 (rI hf hρ)
  · have hf := ifn hq hf
    refine z_aload_n hc d_M_book_11 1 rfl ?_
    refine z_iload_n hc d_M_book_12 0 rfl ?_
    obtain ⟨v27, σ28, h29, hf⟩ := bd2 hf
    refine cz_M_92 hc d_M_book_13 (by decide)  h29 (Nat.le_of_ble_eq_true rfl) ?_
    exact z_iret hc d_M_book_16 (rI hf hρ)
def j_M_isSo_43 (x1 : Int32) (x2 : Int32) (x4 : Int32) (xs0 : Int32) (σ : Sg) : Option ((Int32 × Int32 × Sg) ⊕ (Int32 × Sg)) :=
  b2 (f_M_goes (iI 1) σ) (fun v9 σ10 => some (.inl (xs0, x4 + (iI 1), σ10)))
theorem sj_M_isSo_43 {x : Cx} {g : Gv} {ρ : Option Value × Sg} (hc : Zc x g c_M_isSo R_M 5 (some .boolean) 4) (x1 : Int32) (x2 : Int32) (x4 : Int32) (xs0 : Int32) (σ : Sg) (r : (Int32 × Int32 × Sg) ⊕ (Int32 × Sg)) (hf : j_M_isSo_43 x1 x2 x4 xs0 σ = some r) (hi : ∀ a', r = .inl a' → Z x g 5 ρ 5 [(0, .ref (gAd g (6, 0, 0))), (1, .int x1), (2, .int x2), (3, .int a'.1), (4, .int a'.2.1)] [] a'.2.2) (he0 : ∀ b, r = .inr b → Z x g 5 ρ 55 [(3, .int b.1)] [] b.2) : Z x g 5 ρ 43 [(0, .ref (gAd g (6, 0, 0))), (1, .int x1), (2, .int x2), (4, .int x4)] [.int xs0] σ := by
  unfold j_M_isSo_43 at hf
  refine z_istore_n (L' := [(3, .int xs0), (0, .ref (gAd g (6, 0, 0))), (1, .int x1), (2, .int x2), (4, .int x4)]) hc d_M_isSo_43 (by decide) rfl ?_
  refine z_aload_n hc d_M_isSo_44 1 rfl ?_
  refine z_iconst (v := (iI 1)) hc d_M_isSo_45 (by decide) ?_
  obtain ⟨v9, σ10, h11, hf⟩ := bd2 hf
  refine cz_M_123 hc d_M_isSo_46 (by decide)  h11 (Nat.le_of_ble_eq_true rfl) ?_
  refine z_iinc (v := x4 + (iI 1)) (L' := [(4, .int (x4 + (iI 1))), (3, .int xs0), (0, .ref (gAd g (6, 0, 0))), (1, .int x1), (2, .int x2)]) hc d_M_isSo_49 4 rfl rfl (by decide) rfl ?_
  refine z_goto (tgt := 5) hc d_M_isSo_52 (by decide) ?_
  refine z_sub [2, 3, 4, 1, 0] (L' := [(0, .ref (gAd g (6, 0, 0))), (1, .int x1), (2, .int x2), (3, .int xs0), (4, .int (x4 + (iI 1)))]) rfl ?_
  exact hi (xs0, x4 + (iI 1), σ10) (Option.some.inj hf).symm
def b_M_isSo_5 (x1 : Int32) (x2 : Int32) (x3 : Int32) (x4 : Int32) (σ : Sg) : Option ((Int32 × Int32 × Sg) ⊕ (Int32 × Sg)) :=
  Option.bind (rd x1 4) (fun j1 => (if (σ.1 29 0 0 j1) ≤ x4 then some (.inr (x3, σ)) else (if x3 = (iI 0) then some (.inr (x3, σ)) else b2 (f_M_told x1 x4 σ) (fun v3 σ4 => b2 (f_M_get x2 (iI 3) σ4) (fun v6 σ7 => (if (lg_cmp v3 ((v6 : Int32).toInt64)) = (iI 0) then j_M_isSo_43 x1 x2 x4 (iI 1) σ7 else j_M_isSo_43 x1 x2 x4 (iI 0) σ7))))))
theorem sb_M_isSo_5 {x : Cx} {g : Gv} {ρ : Option Value × Sg} (hc : Zc x g c_M_isSo R_M 5 (some .boolean) 4) (x1 : Int32) (x2 : Int32) (x3 : Int32) (x4 : Int32) (σ : Sg) (r : (Int32 × Int32 × Sg) ⊕ (Int32 × Sg)) (hf : b_M_isSo_5 x1 x2 x3 x4 σ = some r) (hi : ∀ a', r = .inl a' → Z x g 5 ρ 5 [(0, .ref (gAd g (6, 0, 0))), (1, .int x1), (2, .int x2), (3, .int a'.1), (4, .int a'.2.1)] [] a'.2.2) (he0 : ∀ b, r = .inr b → Z x g 5 ρ 55 [(3, .int b.1)] [] b.2) : Z x g 5 ρ 5 [(0, .ref (gAd g (6, 0, 0))), (1, .int x1), (2, .int x2), (3, .int x3), (4, .int x4)] [] σ := by
  unfold b_M_isSo_5 at hf
  refine z_iload hc d_M_isSo_5 4 rfl ?_
  refine z_aload_n hc d_M_isSo_7 0 rfl ?_
  refine gf_M_38 hc d_M_isSo_8  ?_
  refine z_iload_n hc d_M_isSo_11 1 rfl ?_
  obtain ⟨j1, hj2, hf⟩ := bd hf
  refine ald_sizes hc d_M_isSo_12  hj2 ?_
  refine z_icmp_ge (tgt := 55) hc d_M_isSo_13 (by decide) (fun hq => ?_) (fun hq => ?_)
  · have hf := ifp hq hf
    refine z_sub [3] (L' := [(3, .int x3)]) rfl ?_
    exact he0 (x3, σ) (Option.some.inj hf).symm
  · have hf := ifn hq hf
    refine z_iload_n hc d_M_isSo_16 3 rfl ?_
    refine z_if_eq (tgt := 55) hc d_M_isSo_17 (by decide) (fun hq => ?_) (fun hq => ?_)
    · have hf := ifp hq hf
      refine z_sub [3] (L' := [(3, .int x3)]) rfl ?_
      exact he0 (x3, σ) (Option.some.inj hf).symm
    · have hf := ifn hq hf
      refine z_aload_n hc d_M_isSo_20 0 rfl ?_
      refine z_iload_n hc d_M_isSo_21 1 rfl ?_
      refine z_iload hc d_M_isSo_22 4 rfl ?_
      obtain ⟨v3, σ4, h5, hf⟩ := bd2 hf
      refine cz_M_211 hc d_M_isSo_24 (by decide)  h5 (Nat.le_of_ble_eq_true rfl) ?_
      refine z_aload_n hc d_M_isSo_27 0 rfl ?_
      refine z_iload_n hc d_M_isSo_28 2 rfl ?_
      refine z_iconst (v := (iI 3)) hc d_M_isSo_29 (by decide) ?_
      obtain ⟨v6, σ7, h8, hf⟩ := bd2 hf
      refine cz_M_53 hc d_M_isSo_30 (by decide)  h8 (Nat.le_of_ble_eq_true rfl) ?_
      refine z_i2l hc d_M_isSo_33 ?_
      refine z_lcmp hc d_M_isSo_34 ?_
      refine z_if_ne (tgt := 42) hc d_M_isSo_35 (by decide) (fun hq => ?_) (fun hq => ?_)
      · have hf := ifn hq hf
        refine z_iconst (v := (iI 0)) hc d_M_isSo_42 (by decide) ?_
        refine z_sub [0, 1, 2, 4] (L' := [(0, .ref (gAd g (6, 0, 0))), (1, .int x1), (2, .int x2), (4, .int x4)]) rfl ?_
        exact sj_M_isSo_43 hc x1 x2 x4 (iI 0)   σ7 _ hf hi he0
      · have hf := ifp hq hf
        refine z_iconst (v := (iI 1)) hc d_M_isSo_38 (by decide) ?_
        refine z_goto (tgt := 43) hc d_M_isSo_39 (by decide) ?_
        refine z_sub [0, 1, 2, 4] (L' := [(0, .ref (gAd g (6, 0, 0))), (1, .int x1), (2, .int x2), (4, .int x4)]) rfl ?_
        exact sj_M_isSo_43 hc x1 x2 x4 (iI 1)   σ7 _ hf hi he0
def f_M_isSo (x1 : Int32) (x2 : Int32) (σ : Sg) : Option (Int32 × Sg) :=
  Option.bind (lp (fun a => b_M_isSo_5 x1 x2 a.1 a.2.1 a.2.2) FU ((iI 1), (iI 0), σ)) (fun b16 => Option.bind (bo b16.1) (fun r15 => some (r15, b16.2)))
theorem ok_M_isSo (g : Gv) (x1 : Int32) (x2 : Int32) (σ : Sg) (r : Int32 × Sg) (hf : f_M_isSo x1 x2 σ = some r) : Ok g y_M_isSo c_M_isSo 5 (some .boolean) 4 [.ref (gAd g (6, 0, 0)), .int x1, .int x2] σ (some (.int r.1), r.2) := by
  unfold f_M_isSo at hf
  refine Ok.of [(0, .ref (gAd g (6, 0, 0))), (1, .int x1), (2, .int x2)] (by decide) (Nat.le_of_ble_eq_true rfl) rfl ?_
  intro x hc
  have hc : Zc x g c_M_isSo R_M 5 (some .boolean) 4 := hc
  obtain ⟨ρ, hρ⟩ : ∃ ρ : Option Value × Sg, ρ = (some (.int r.1), r.2) := ⟨_, rfl⟩
  rw [← hρ]
  refine z_iconst (v := (iI 1)) hc d_M_isSo_0 (by decide) ?_
  refine z_istore_n (L' := [(3, .int (iI 1)), (0, .ref (gAd g (6, 0, 0))), (1, .int x1), (2, .int x2)]) hc d_M_isSo_1 (by decide) rfl ?_
  refine z_iconst (v := (iI 0)) hc d_M_isSo_2 (by decide) ?_
  refine z_istore (L' := [(4, .int (iI 0)), (3, .int (iI 1)), (0, .ref (gAd g (6, 0, 0))), (1, .int x1), (2, .int x2)]) hc d_M_isSo_3 (by decide) rfl ?_
  refine z_sub [2, 3, 4, 1, 0] (L' := [(0, .ref (gAd g (6, 0, 0))), (1, .int x1), (2, .int x2), (3, .int (iI 1)), (4, .int (iI 0))]) rfl ?_
  obtain ⟨⟨y13, σ14⟩, hl17, hf⟩ := bd hf
  try dsimp only at hf
  refine lp_walk (α := (Int32 × Int32 × Sg)) (β := (Int32 × Sg)) (body := (fun a : (Int32 × Int32 × Sg) => b_M_isSo_5 x1 x2 a.1 a.2.1 a.2.2)) (In := (fun a : (Int32 × Int32 × Sg) => Z x g 5 ρ 5 [(0, .ref (gAd g (6, 0, 0))), (1, .int x1), (2, .int x2), (3, .int a.1), (4, .int a.2.1)] [] a.2.2)) (Out := (fun b => Z x g 5 ρ 55 [(3, .int b.1)] [] b.2)) (fun a r hb hi ho => sb_M_isSo_5 hc x1 x2  a.1 a.2.1 a.2.2 r hb hi (fun b e => ho _ e)) FU ((iI 1), (iI 0), σ) _ hl17 ?_
  dsimp only
  refine z_iload_n hc d_M_isSo_55 0 rfl ?_
  obtain ⟨r15, hb1, hf⟩ := bd hf
  exact z_bret hc d_M_isSo_56 hb1 hf hρ
theorem vl_M_224 : VL R_M 224 y_M_isSo c_M_isSo 5 (some .boolean) 2 := ⟨tb6 22 (by decide +kernel) (by decide +kernel), tb6 24 (by decide +kernel) (by decide +kernel), tbp 46 (by decide +kernel), tb1 12 (by decide +kernel) (by decide +kernel), k_M_isSo, by decide, by decide, by decide +kernel, by decide⟩
theorem cz_M_224 {x : Cx} {g : Gv} {cc : ByteArray} {nL d pc : Nat} {ret : Option FieldType} {ρ : Option Value × Sg} {L : List (Nat × Value)} {st : List Value} {σ : Sg} (hc : Zc x g cc R_M nL ret d) (hd : decode cc pc = .ok (.invokevirtual 224, 3)) (hdd : 5 ≤ d) {x1 : Int32} {x2 : Int32} {v : Int32} {σ1 : Sg} (hf : f_M_isSo x1 x2 σ = some (v, σ1)) (hst : (st.map (fun v => v.category)).sum ≤ 8) (k : Z x g nL ρ (pc + 3) L (.int v :: st) σ1) : Z x g nL ρ pc L (.int x2 :: .int x1 :: .ref (gAd g (6, 0, 0)) :: st) σ := z_callV (ci := 11) (As := [.int x1, .int x2]) hc hd vl_M_224 hdd (6, 0, 0) (dm_M) rfl rfl (ok_M_isSo g x1 x2 σ (v, σ1) hf) rfl rfl hst rfl k
def j_M_read_72 (x1 : Int32) (x2 : Int32) (x5 : Int32) (xs0 : Int32) (xs1 : Int32) (σ : Sg) : Option ((Int32 × Int32 × Sg) ⊕ (Int32 × Sg)) :=
  b2 (f_M_laysBack  σ) (fun v16 σ17 => some (.inl (xs1 + xs0, x5 + (iI 1), σ17)))
theorem sj_M_read_72 {x : Cx} {g : Gv} {ρ : Option Value × Sg} (hc : Zc x g c_M_read R_M 6 (some .int) 5) (x1 : Int32) (x2 : Int32) (x5 : Int32) (xs0 : Int32) (xs1 : Int32) (σ : Sg) (r : (Int32 × Int32 × Sg) ⊕ (Int32 × Sg)) (hf : j_M_read_72 x1 x2 x5 xs0 xs1 σ = some r) (hi : ∀ a', r = .inl a' → Z x g 6 ρ 27 [(0, .ref (gAd g (6, 0, 0))), (1, .int x1), (2, .int x2), (4, .int a'.1), (5, .int a'.2.1)] [] a'.2.2) (he0 : ∀ b, r = .inr b → Z x g 6 ρ 85 [(4, .int b.1)] [] b.2) : Z x g 6 ρ 72 [(0, .ref (gAd g (6, 0, 0))), (1, .int x1), (2, .int x2), (5, .int x5)] [.int xs0, .int xs1] σ := by
  unfold j_M_read_72 at hf
  refine z_iadd hc d_M_read_72 ?_
  refine z_istore (L' := [(4, .int (xs1 + xs0)), (0, .ref (gAd g (6, 0, 0))), (1, .int x1), (2, .int x2), (5, .int x5)]) hc d_M_read_73 (by decide) rfl ?_
  refine z_aload_n hc d_M_read_75 1 rfl ?_
  obtain ⟨v16, σ17, h18, hf⟩ := bd2 hf
  refine cz_M_129 hc d_M_read_76 (by decide)  h18 (Nat.le_of_ble_eq_true rfl) ?_
  refine z_iinc (v := x5 + (iI 1)) (L' := [(5, .int (x5 + (iI 1))), (4, .int (xs1 + xs0)), (0, .ref (gAd g (6, 0, 0))), (1, .int x1), (2, .int x2)]) hc d_M_read_79 4 rfl rfl (by decide) rfl ?_
  refine z_goto (tgt := 27) hc d_M_read_82 (by decide) ?_
  refine z_sub [2, 3, 4, 1, 0] (L' := [(0, .ref (gAd g (6, 0, 0))), (1, .int x1), (2, .int x2), (4, .int (xs1 + xs0)), (5, .int (x5 + (iI 1)))]) rfl ?_
  exact hi (xs1 + xs0, x5 + (iI 1), σ17) (Option.some.inj hf).symm
def b_M_read_27 (x1 : Int32) (x2 : Int32) (x4 : Int32) (x5 : Int32) (σ : Sg) : Option ((Int32 × Int32 × Sg) ⊕ (Int32 × Sg)) :=
  (if (iI 60) ≤ x5 then some (.inr (x4, σ)) else b2 (f_M_puts x2 (iI 0) (x5 / (iI 10)) σ) (fun v7 σ8 => b2 (f_M_puts x2 (iI 4) (x5 - x5 / (iI 10) * (iI 10)) σ8) (fun v10 σ11 => b2 (f_M_isSo x1 x2 σ11) (fun v13 σ14 => (if v13 = (iI 0) then j_M_read_72 x1 x2 x5 (iI 0) x4 σ14 else j_M_read_72 x1 x2 x5 (iI 1) x4 σ14)))))
theorem sb_M_read_27 {x : Cx} {g : Gv} {ρ : Option Value × Sg} (hc : Zc x g c_M_read R_M 6 (some .int) 5) (x1 : Int32) (x2 : Int32) (x4 : Int32) (x5 : Int32) (σ : Sg) (r : (Int32 × Int32 × Sg) ⊕ (Int32 × Sg)) (hf : b_M_read_27 x1 x2 x4 x5 σ = some r) (hi : ∀ a', r = .inl a' → Z x g 6 ρ 27 [(0, .ref (gAd g (6, 0, 0))), (1, .int x1), (2, .int x2), (4, .int a'.1), (5, .int a'.2.1)] [] a'.2.2) (he0 : ∀ b, r = .inr b → Z x g 6 ρ 85 [(4, .int b.1)] [] b.2) : Z x g 6 ρ 27 [(0, .ref (gAd g (6, 0, 0))), (1, .int x1), (2, .int x2), (4, .int x4), (5, .int x5)] [] σ := by
  unfold b_M_read_27 at hf
  refine z_iload hc d_M_read_27 4 rfl ?_
  refine z_bipush (v := (iI 60)) hc d_M_read_29 (by decide) ?_
  refine z_icmp_ge (tgt := 85) hc d_M_read_31 (by decide) (fun hq => ?_) (fun hq => ?_)
  · have hf := ifp hq hf
    refine z_sub [3] (L' := [(4, .int x4)]) rfl ?_
    exact he0 (x4, σ) (Option.some.inj hf).symm
  · have hf := ifn hq hf
    refine z_aload_n hc d_M_read_34 0 rfl ?_
    refine z_iload_n hc d_M_read_35 2 rfl ?_
    refine z_iconst (v := (iI 0)) hc d_M_read_36 (by decide) ?_
    refine z_iload hc d_M_read_37 4 rfl ?_
    refine z_bipush (v := (iI 10)) hc d_M_read_39 (by decide) ?_
    refine z_idiv hc d_M_read_41 (by decide) ?_
    obtain ⟨v7, σ8, h9, hf⟩ := bd2 hf
    refine cz_M_78 hc d_M_read_42 (by decide)  h9 (Nat.le_of_ble_eq_true rfl) ?_
    refine z_aload_n hc d_M_read_45 0 rfl ?_
    refine z_iload_n hc d_M_read_46 2 rfl ?_
    refine z_iconst (v := (iI 4)) hc d_M_read_47 (by decide) ?_
    refine z_iload hc d_M_read_48 4 rfl ?_
    refine z_bipush (v := (iI 10)) hc d_M_read_50 (by decide) ?_
    refine z_irem hc d_M_read_52 (by decide) ?_
    obtain ⟨v10, σ11, h12, hf⟩ := bd2 hf
    refine cz_M_78 hc d_M_read_53 (by decide)  h12 (Nat.le_of_ble_eq_true rfl) ?_
    refine z_iload hc d_M_read_56 3 rfl ?_
    refine z_aload_n hc d_M_read_58 0 rfl ?_
    refine z_iload_n hc d_M_read_59 1 rfl ?_
    refine z_iload_n hc d_M_read_60 2 rfl ?_
    obtain ⟨v13, σ14, h15, hf⟩ := bd2 hf
    refine cz_M_224 hc d_M_read_61 (by decide)  h15 (Nat.le_of_ble_eq_true rfl) ?_
    refine z_if_eq (tgt := 71) hc d_M_read_64 (by decide) (fun hq => ?_) (fun hq => ?_)
    · have hf := ifp hq hf
      refine z_iconst (v := (iI 0)) hc d_M_read_71 (by decide) ?_
      refine z_sub [0, 1, 2, 4] (L' := [(0, .ref (gAd g (6, 0, 0))), (1, .int x1), (2, .int x2), (5, .int x5)]) rfl ?_
      exact sj_M_read_72 hc x1 x2 x5 (iI 0) x4   σ14 _ hf hi he0
    · have hf := ifn hq hf
      refine z_iconst (v := (iI 1)) hc d_M_read_67 (by decide) ?_
      refine z_goto (tgt := 72) hc d_M_read_68 (by decide) ?_
      refine z_sub [0, 1, 2, 4] (L' := [(0, .ref (gAd g (6, 0, 0))), (1, .int x1), (2, .int x2), (5, .int x5)]) rfl ?_
      exact sj_M_read_72 hc x1 x2 x5 (iI 1) x4   σ14 _ hf hi he0
def f_M_read (x1 : Int32) (x2 : Int32) (σ : Sg) : Option (Int32 × Sg) :=
  b2 (f_M_wrongWith x1 x2 σ) (fun v1 σ2 => (if v1 < (iI 0) then b2 (f_M_setsAside  σ2) (fun v4 σ5 => Option.bind (lp (fun a => b_M_read_27 x1 x2 a.1 a.2.1 a.2.2) FU ((iI 0), (iI 0), σ5)) (fun b22 => some (b22.1, b22.2))) else b2 (f_M_no v1 σ2) (fun v24 σ25 => some (v24, σ25))))
theorem ok_M_read (g : Gv) (x1 : Int32) (x2 : Int32) (σ : Sg) (r : Int32 × Sg) (hf : f_M_read x1 x2 σ = some r) : Ok g y_M_read c_M_read 6 (some .int) 5 [.ref (gAd g (6, 0, 0)), .int x1, .int x2] σ (some (.int r.1), r.2) := by
  unfold f_M_read at hf
  refine Ok.of [(0, .ref (gAd g (6, 0, 0))), (1, .int x1), (2, .int x2)] (by decide) (Nat.le_of_ble_eq_true rfl) rfl ?_
  intro x hc
  have hc : Zc x g c_M_read R_M 6 (some .int) 5 := hc
  obtain ⟨ρ, hρ⟩ : ∃ ρ : Option Value × Sg, ρ = (some (.int r.1), r.2) := ⟨_, rfl⟩
  rw [← hρ]
  refine z_aload_n hc d_M_read_0 0 rfl ?_
  refine z_iload_n hc d_M_read_1 1 rfl ?_
  refine z_iload_n hc d_M_read_2 2 rfl ?_
  obtain ⟨v1, σ2, h3, hf⟩ := bd2 hf
  refine cz_M_221 hc d_M_read_3 (by decide)  h3 (Nat.le_of_ble_eq_true rfl) ?_
  refine z_istore_n (L' := [(3, .int v1), (0, .ref (gAd g (6, 0, 0))), (1, .int x1), (2, .int x2)]) hc d_M_read_6 (by decide) rfl ?_
  refine z_iload_n hc d_M_read_7 0 rfl ?_
  refine z_if_lt (tgt := 17) hc d_M_read_8 (by decide) (fun hq => ?_) (fun hq => ?_)
  · have hf := ifp hq hf
    refine z_iconst (v := (iI 0)) hc d_M_read_17 (by decide) ?_
    refine z_istore (L' := [(4, .int (iI 0)), (3, .int v1), (0, .ref (gAd g (6, 0, 0))), (1, .int x1), (2, .int x2)]) hc d_M_read_18 (by decide) rfl ?_
    refine z_aload_n hc d_M_read_20 2 rfl ?_
    obtain ⟨v4, σ5, h6, hf⟩ := bd2 hf
    refine cz_M_126 hc d_M_read_21 (by decide)  h6 (Nat.le_of_ble_eq_true rfl) ?_
    refine z_iconst (v := (iI 0)) hc d_M_read_24 (by decide) ?_
    refine z_istore (L' := [(5, .int (iI 0)), (4, .int (iI 0)), (3, .int v1), (0, .ref (gAd g (6, 0, 0))), (1, .int x1), (2, .int x2)]) hc d_M_read_25 (by decide) rfl ?_
    refine z_sub [3, 4, 5, 1, 0] (L' := [(0, .ref (gAd g (6, 0, 0))), (1, .int x1), (2, .int x2), (4, .int (iI 0)), (5, .int (iI 0))]) rfl ?_
    obtain ⟨⟨y20, σ21⟩, hl23, hf⟩ := bd hf
    try dsimp only at hf
    refine lp_walk (α := (Int32 × Int32 × Sg)) (β := (Int32 × Sg)) (body := (fun a : (Int32 × Int32 × Sg) => b_M_read_27 x1 x2 a.1 a.2.1 a.2.2)) (In := (fun a : (Int32 × Int32 × Sg) => Z x g 6 ρ 27 [(0, .ref (gAd g (6, 0, 0))), (1, .int x1), (2, .int x2), (4, .int a.1), (5, .int a.2.1)] [] a.2.2)) (Out := (fun b => Z x g 6 ρ 85 [(4, .int b.1)] [] b.2)) (fun a r hb hi ho => sb_M_read_27 hc x1 x2  a.1 a.2.1 a.2.2 r hb hi (fun b e => ho _ e)) FU ((iI 0), (iI 0), σ5) _ hl23 ?_
    dsimp only
    refine z_iload hc d_M_read_85 0 rfl ?_
    exact z_iret hc d_M_read_87 (rI hf hρ)
  · have hf := ifn hq hf
    refine z_aload_n hc d_M_read_11 1 rfl ?_
    refine z_iload_n hc d_M_read_12 0 rfl ?_
    obtain ⟨v24, σ25, h26, hf⟩ := bd2 hf
    refine cz_M_92 hc d_M_read_13 (by decide)  h26 (Nat.le_of_ble_eq_true rfl) ?_
    exact z_iret hc d_M_read_16 (rI hf hρ)
def b_M_image_2 (x1 : Int32) (σ : Sg) : Option ((Int32 × Sg) ⊕ (Sg)) :=
  (if (iI 66) ≤ x1 then some (.inr σ) else Option.bind (rd x1 66) (fun j1 => Option.bind (rd x1 66) (fun j3 => some (.inl (x1 + (iI 1), upI σ 21 0 0 j3 (σ.1 20 0 0 j1))))))
theorem sb_M_image_2 {x : Cx} {g : Gv} {ρ : Option Value × Sg} (hc : Zc x g c_M_image R_M 2 (some .int) 0) (x1 : Int32) (σ : Sg) (r : (Int32 × Sg) ⊕ (Sg)) (hf : b_M_image_2 x1 σ = some r) (hi : ∀ a', r = .inl a' → Z x g 2 ρ 2 [(0, .ref (gAd g (6, 0, 0))), (1, .int a'.1)] [] a'.2) (he0 : ∀ b, r = .inr b → Z x g 2 ρ 26 [(0, .ref (gAd g (6, 0, 0)))] [] b) : Z x g 2 ρ 2 [(0, .ref (gAd g (6, 0, 0))), (1, .int x1)] [] σ := by
  unfold b_M_image_2 at hf
  refine z_iload_n hc d_M_image_2 1 rfl ?_
  refine z_bipush (v := (iI 66)) hc d_M_image_3 (by decide) ?_
  refine z_icmp_ge (tgt := 26) hc d_M_image_5 (by decide) (fun hq => ?_) (fun hq => ?_)
  · have hf := ifp hq hf
    refine z_sub [0] (L' := [(0, .ref (gAd g (6, 0, 0)))]) rfl ?_
    exact he0 σ (Option.some.inj hf).symm
  · have hf := ifn hq hf
    refine z_aload_n hc d_M_image_8 0 rfl ?_
    refine gf_M_13 hc d_M_image_9  ?_
    refine z_iload_n hc d_M_image_12 1 rfl ?_
    refine z_aload_n hc d_M_image_13 0 rfl ?_
    refine gf_M_9 hc d_M_image_14  ?_
    refine z_iload_n hc d_M_image_17 1 rfl ?_
    obtain ⟨j1, hj2, hf⟩ := bd hf
    refine ald_ms hc d_M_image_18  hj2 ?_
    obtain ⟨j3, hj4, hf⟩ := bd hf
    refine ast_mkept hc d_M_image_19  hj4 ?_
    refine z_iinc (v := x1 + (iI 1)) (L' := [(1, .int (x1 + (iI 1))), (0, .ref (gAd g (6, 0, 0)))]) hc d_M_image_20 1 rfl rfl (by decide) rfl ?_
    refine z_goto (tgt := 2) hc d_M_image_23 (by decide) ?_
    refine z_sub [1, 0] (L' := [(0, .ref (gAd g (6, 0, 0))), (1, .int (x1 + (iI 1)))]) rfl ?_
    exact hi (x1 + (iI 1), upI σ 21 0 0 j3 (σ.1 20 0 0 j1)) (Option.some.inj hf).symm
def f_M_image (σ : Sg) : Option (Int32 × Sg) :=
  Option.bind (lp (fun a => b_M_image_2  a.1 a.2) FU ((iI 0), σ)) (fun b7 => some ((iI 1), upI b7 6 0 0 0 (iI 1)))
theorem ok_M_image (g : Gv) (σ : Sg) (r : Int32 × Sg) (hf : f_M_image σ = some r) : Ok g y_M_image c_M_image 2 (some .int) 0 [.ref (gAd g (6, 0, 0))] σ (some (.int r.1), r.2) := by
  unfold f_M_image at hf
  refine Ok.of [(0, .ref (gAd g (6, 0, 0)))] (by decide) (Nat.le_of_ble_eq_true rfl) rfl ?_
  intro x hc
  have hc : Zc x g c_M_image R_M 2 (some .int) 0 := hc
  obtain ⟨ρ, hρ⟩ : ∃ ρ : Option Value × Sg, ρ = (some (.int r.1), r.2) := ⟨_, rfl⟩
  rw [← hρ]
  refine z_iconst (v := (iI 0)) hc d_M_image_0 (by decide) ?_
  refine z_istore_n (L' := [(1, .int (iI 0)), (0, .ref (gAd g (6, 0, 0)))]) hc d_M_image_1 (by decide) rfl ?_
  refine z_sub [1, 0] (L' := [(0, .ref (gAd g (6, 0, 0))), (1, .int (iI 0))]) rfl ?_
  obtain ⟨σ6, hl8, hf⟩ := bd hf
  try dsimp only at hf
  refine lp_walk (α := (Int32 × Sg)) (β := (Sg)) (body := (fun a : (Int32 × Sg) => b_M_image_2  a.1 a.2)) (In := (fun a : (Int32 × Sg) => Z x g 2 ρ 2 [(0, .ref (gAd g (6, 0, 0))), (1, .int a.1)] [] a.2)) (Out := (fun b => Z x g 2 ρ 26 [(0, .ref (gAd g (6, 0, 0)))] [] b)) (fun a r hb hi ho => sb_M_image_2 hc   a.1 a.2 r hb hi (fun b e => ho _ e)) FU ((iI 0), σ) _ hl8 ?_
  refine z_aload_n hc d_M_image_26 0 rfl ?_
  refine z_iconst (v := (iI 1)) hc d_M_image_27 (by decide) ?_
  refine pf_M_227 hc d_M_image_28  (by decide) ?_
  refine z_iconst (v := (iI 1)) hc d_M_image_31 (by decide) ?_
  exact z_iret hc d_M_image_32 (rI hf hρ)
def b_M_undo_15 (x1 : Int32) (σ : Sg) : Option ((Int32 × Sg) ⊕ (Sg)) :=
  (if (iI 66) ≤ x1 then some (.inr σ) else Option.bind (rd x1 66) (fun j1 => Option.bind (rd x1 66) (fun j3 => some (.inl (x1 + (iI 1), upI σ 20 0 0 j3 (σ.1 21 0 0 j1))))))
theorem sb_M_undo_15 {x : Cx} {g : Gv} {ρ : Option Value × Sg} (hc : Zc x g c_M_undo R_M 2 (some .int) 1) (x1 : Int32) (σ : Sg) (r : (Int32 × Sg) ⊕ (Sg)) (hf : b_M_undo_15 x1 σ = some r) (hi : ∀ a', r = .inl a' → Z x g 2 ρ 15 [(0, .ref (gAd g (6, 0, 0))), (1, .int a'.1)] [] a'.2) (he0 : ∀ b, r = .inr b → Z x g 2 ρ 39 [(0, .ref (gAd g (6, 0, 0)))] [] b) : Z x g 2 ρ 15 [(0, .ref (gAd g (6, 0, 0))), (1, .int x1)] [] σ := by
  unfold b_M_undo_15 at hf
  refine z_iload_n hc d_M_undo_15 1 rfl ?_
  refine z_bipush (v := (iI 66)) hc d_M_undo_16 (by decide) ?_
  refine z_icmp_ge (tgt := 39) hc d_M_undo_18 (by decide) (fun hq => ?_) (fun hq => ?_)
  · have hf := ifp hq hf
    refine z_sub [0] (L' := [(0, .ref (gAd g (6, 0, 0)))]) rfl ?_
    exact he0 σ (Option.some.inj hf).symm
  · have hf := ifn hq hf
    refine z_aload_n hc d_M_undo_21 0 rfl ?_
    refine gf_M_9 hc d_M_undo_22  ?_
    refine z_iload_n hc d_M_undo_25 1 rfl ?_
    refine z_aload_n hc d_M_undo_26 0 rfl ?_
    refine gf_M_13 hc d_M_undo_27  ?_
    refine z_iload_n hc d_M_undo_30 1 rfl ?_
    obtain ⟨j1, hj2, hf⟩ := bd hf
    refine ald_mkept hc d_M_undo_31  hj2 ?_
    obtain ⟨j3, hj4, hf⟩ := bd hf
    refine ast_ms hc d_M_undo_32  hj4 ?_
    refine z_iinc (v := x1 + (iI 1)) (L' := [(1, .int (x1 + (iI 1))), (0, .ref (gAd g (6, 0, 0)))]) hc d_M_undo_33 1 rfl rfl (by decide) rfl ?_
    refine z_goto (tgt := 15) hc d_M_undo_36 (by decide) ?_
    refine z_sub [1, 0] (L' := [(0, .ref (gAd g (6, 0, 0))), (1, .int (x1 + (iI 1)))]) rfl ?_
    exact hi (x1 + (iI 1), upI σ 20 0 0 j3 (σ.1 21 0 0 j1)) (Option.some.inj hf).symm
def f_M_undo (σ : Sg) : Option (Int32 × Sg) :=
  (if (σ.1 6 0 0 0) = (iI 0) then b2 (f_M_no (iI 3) σ) (fun v11 σ12 => some (v11, σ12)) else Option.bind (lp (fun a => b_M_undo_15  a.1 a.2) FU ((iI 0), σ)) (fun b9 => Option.bind (rd (iI 2) 66) (fun j7 => some (b9.1 20 0 0 j7, b9))))
theorem ok_M_undo (g : Gv) (σ : Sg) (r : Int32 × Sg) (hf : f_M_undo σ = some r) : Ok g y_M_undo c_M_undo 2 (some .int) 1 [.ref (gAd g (6, 0, 0))] σ (some (.int r.1), r.2) := by
  unfold f_M_undo at hf
  refine Ok.of [(0, .ref (gAd g (6, 0, 0)))] (by decide) (Nat.le_of_ble_eq_true rfl) rfl ?_
  intro x hc
  have hc : Zc x g c_M_undo R_M 2 (some .int) 1 := hc
  obtain ⟨ρ, hρ⟩ : ∃ ρ : Option Value × Sg, ρ = (some (.int r.1), r.2) := ⟨_, rfl⟩
  rw [← hρ]
  refine z_aload_n hc d_M_undo_0 0 rfl ?_
  refine gf_M_227 hc d_M_undo_1  ?_
  refine z_if_ne (tgt := 13) hc d_M_undo_4 (by decide) (fun hq => ?_) (fun hq => ?_)
  · have hf := ifn hq hf
    refine z_iconst (v := (iI 0)) hc d_M_undo_13 (by decide) ?_
    refine z_istore_n (L' := [(1, .int (iI 0)), (0, .ref (gAd g (6, 0, 0)))]) hc d_M_undo_14 (by decide) rfl ?_
    refine z_sub [1, 0] (L' := [(0, .ref (gAd g (6, 0, 0))), (1, .int (iI 0))]) rfl ?_
    obtain ⟨σ6, hl10, hf⟩ := bd hf
    try dsimp only at hf
    refine lp_walk (α := (Int32 × Sg)) (β := (Sg)) (body := (fun a : (Int32 × Sg) => b_M_undo_15  a.1 a.2)) (In := (fun a : (Int32 × Sg) => Z x g 2 ρ 15 [(0, .ref (gAd g (6, 0, 0))), (1, .int a.1)] [] a.2)) (Out := (fun b => Z x g 2 ρ 39 [(0, .ref (gAd g (6, 0, 0)))] [] b)) (fun a r hb hi ho => sb_M_undo_15 hc   a.1 a.2 r hb hi (fun b e => ho _ e)) FU ((iI 0), σ) _ hl10 ?_
    refine z_aload_n hc d_M_undo_39 0 rfl ?_
    refine gf_M_9 hc d_M_undo_40  ?_
    refine z_iconst (v := (iI 2)) hc d_M_undo_43 (by decide) ?_
    obtain ⟨j7, hj8, hf⟩ := bd hf
    refine ald_ms hc d_M_undo_44  hj8 ?_
    exact z_iret hc d_M_undo_45 (rI hf hρ)
  · have hf := ifp hq hf
    refine z_aload_n hc d_M_undo_7 0 rfl ?_
    refine z_iconst (v := (iI 3)) hc d_M_undo_8 (by decide) ?_
    obtain ⟨v11, σ12, h13, hf⟩ := bd2 hf
    refine cz_M_92 hc d_M_undo_9 (by decide)  h13 (Nat.le_of_ble_eq_true rfl) ?_
    exact z_iret hc d_M_undo_12 (rI hf hρ)
def j_M_tear_12 (xs0 : Int32) (σ : Sg) : Option (Int32 × Sg) :=
  some (xs0, upI σ 6 0 0 0 (iI 0))
theorem sj_M_tear_12 {x : Cx} {g : Gv} {ρ : Option Value × Sg} (hc : Zc x g c_M_tear R_M 2 (some .int) 0) (xs0 : Int32) (σ : Sg) (r : Int32 × Sg) (hf : j_M_tear_12 xs0 σ = some r) (hρ : ρ = (some (.int r.1), r.2)) : Z x g 2 ρ 12 [(0, .ref (gAd g (6, 0, 0)))] [.int xs0] σ := by
  unfold j_M_tear_12 at hf
  refine z_istore_n (L' := [(1, .int xs0), (0, .ref (gAd g (6, 0, 0)))]) hc d_M_tear_12 (by decide) rfl ?_
  refine z_aload_n hc d_M_tear_13 1 rfl ?_
  refine z_iconst (v := (iI 0)) hc d_M_tear_14 (by decide) ?_
  refine pf_M_227 hc d_M_tear_15  (by decide) ?_
  refine z_iload_n hc d_M_tear_18 0 rfl ?_
  exact z_iret hc d_M_tear_19 (rI hf hρ)
def f_M_tear (σ : Sg) : Option (Int32 × Sg) :=
  (if (σ.1 6 0 0 0) = (iI 0) then j_M_tear_12  (iI 0) σ else j_M_tear_12  (iI 1) σ)
theorem ok_M_tear (g : Gv) (σ : Sg) (r : Int32 × Sg) (hf : f_M_tear σ = some r) : Ok g y_M_tear c_M_tear 2 (some .int) 0 [.ref (gAd g (6, 0, 0))] σ (some (.int r.1), r.2) := by
  unfold f_M_tear at hf
  refine Ok.of [(0, .ref (gAd g (6, 0, 0)))] (by decide) (Nat.le_of_ble_eq_true rfl) rfl ?_
  intro x hc
  have hc : Zc x g c_M_tear R_M 2 (some .int) 0 := hc
  obtain ⟨ρ, hρ⟩ : ∃ ρ : Option Value × Sg, ρ = (some (.int r.1), r.2) := ⟨_, rfl⟩
  rw [← hρ]
  refine z_aload_n hc d_M_tear_0 0 rfl ?_
  refine gf_M_227 hc d_M_tear_1  ?_
  refine z_if_eq (tgt := 11) hc d_M_tear_4 (by decide) (fun hq => ?_) (fun hq => ?_)
  · have hf := ifp hq hf
    refine z_iconst (v := (iI 0)) hc d_M_tear_11 (by decide) ?_
    refine z_sub [0] (L' := [(0, .ref (gAd g (6, 0, 0)))]) rfl ?_
    exact sj_M_tear_12 hc  (iI 0)   σ _ hf hρ
  · have hf := ifn hq hf
    refine z_iconst (v := (iI 1)) hc d_M_tear_7 (by decide) ?_
    refine z_goto (tgt := 12) hc d_M_tear_8 (by decide) ?_
    refine z_sub [0] (L' := [(0, .ref (gAd g (6, 0, 0)))]) rfl ?_
    exact sj_M_tear_12 hc  (iI 1)   σ _ hf hρ
def f_M_count (x1 : Int32) (σ : Sg) : Option (Int32 × Sg) :=
  (if x1 = (iI 0) then Option.bind (rd (iI 2) 66) (fun j1 => some (σ.1 20 0 0 j1, σ)) else (if x1 = (iI 1) then some (σ.1 6 0 0 1, σ) else (if x1 = (iI 2) then b2 (f_M_rolledOut  σ) (fun v3 σ4 => b2 (f_M_bits v3 σ4) (fun v6 σ7 => some (v6, σ7))) else (if x1 = (iI 3) then b2 (f_M_sumOf (iI 4) σ) (fun v9 σ10 => some (v9, σ10)) else b2 (f_M_no (iI 0) σ) (fun v12 σ13 => some (v12, σ13))))))
theorem ok_M_count (g : Gv) (x1 : Int32) (σ : Sg) (r : Int32 × Sg) (hf : f_M_count x1 σ = some r) : Ok g y_M_count c_M_count 2 (some .int) 2 [.ref (gAd g (6, 0, 0)), .int x1] σ (some (.int r.1), r.2) := by
  unfold f_M_count at hf
  refine Ok.of [(0, .ref (gAd g (6, 0, 0))), (1, .int x1)] (by decide) (Nat.le_of_ble_eq_true rfl) rfl ?_
  intro x hc
  have hc : Zc x g c_M_count R_M 2 (some .int) 2 := hc
  obtain ⟨ρ, hρ⟩ : ∃ ρ : Option Value × Sg, ρ = (some (.int r.1), r.2) := ⟨_, rfl⟩
  rw [← hρ]
  refine z_iload_n hc d_M_count_0 1 rfl ?_
  by_cases hq0 : x1 = (iI 0)
  · have hf := ifp hq0 hf
    refine z_tab (tgt := 32) (off := 31) (iI 0) hc d_M_count_1 hq0 (by decide) (by decide) (by decide) (by decide) ?_
    refine z_aload_n hc d_M_count_32 0 rfl ?_
    refine gf_M_9 hc d_M_count_33  ?_
    refine z_iconst (v := (iI 2)) hc d_M_count_36 (by decide) ?_
    obtain ⟨j1, hj2, hf⟩ := bd hf
    refine ald_ms hc d_M_count_37  hj2 ?_
    exact z_iret hc d_M_count_38 (rI hf hρ)
  have hf := ifn hq0 hf
  by_cases hq1 : x1 = (iI 1)
  · have hf := ifp hq1 hf
    refine z_tab (tgt := 39) (off := 38) (iI 1) hc d_M_count_1 hq1 (by decide) (by decide) (by decide) (by decide) ?_
    refine z_aload_n hc d_M_count_39 0 rfl ?_
    refine gf_M_148 hc d_M_count_40  ?_
    exact z_iret hc d_M_count_43 (rI hf hρ)
  have hf := ifn hq1 hf
  by_cases hq2 : x1 = (iI 2)
  · have hf := ifp hq2 hf
    refine z_tab (tgt := 44) (off := 43) (iI 2) hc d_M_count_1 hq2 (by decide) (by decide) (by decide) (by decide) ?_
    refine z_aload_n hc d_M_count_44 0 rfl ?_
    obtain ⟨v3, σ4, h5, hf⟩ := bd2 hf
    refine cz_M_102 hc d_M_count_45 (by decide)  h5 (Nat.le_of_ble_eq_true rfl) ?_
    obtain ⟨v6, σ7, h8, hf⟩ := bd2 hf
    refine cz_M_142 hc d_M_count_48 (by decide)  h8 (Nat.le_of_ble_eq_true rfl) ?_
    exact z_iret hc d_M_count_51 (rI hf hρ)
  have hf := ifn hq2 hf
  by_cases hq3 : x1 = (iI 3)
  · have hf := ifp hq3 hf
    refine z_tab (tgt := 52) (off := 51) (iI 3) hc d_M_count_1 hq3 (by decide) (by decide) (by decide) (by decide) ?_
    refine z_aload_n hc d_M_count_52 0 rfl ?_
    refine z_iconst (v := (iI 4)) hc d_M_count_53 (by decide) ?_
    obtain ⟨v9, σ10, h11, hf⟩ := bd2 hf
    refine cz_M_106 hc d_M_count_54 (by decide)  h11 (Nat.le_of_ble_eq_true rfl) ?_
    exact z_iret hc d_M_count_57 (rI hf hρ)
  have hf := ifn hq3 hf
  refine z_tabD (tgt := 58) 4 (by decide) hc d_M_count_1 (fun j hj => by match j, hj with | 0, _ => exact hq0 | 1, _ => exact hq1 | 2, _ => exact hq2 | 3, _ => exact hq3) (by decide) ?_
  refine z_aload_n hc d_M_count_58 0 rfl ?_
  refine z_iconst (v := (iI 0)) hc d_M_count_59 (by decide) ?_
  obtain ⟨v12, σ13, h14, hf⟩ := bd2 hf
  refine cz_M_92 hc d_M_count_60 (by decide)  h14 (Nat.le_of_ble_eq_true rfl) ?_
  exact z_iret hc d_M_count_63 (rI hf hρ)
def j_M_status_37 (x1 : Int32) (x3 : Int32) (xs0 : Int32) (σ : Sg) : Option ((Int32 × Int32 × Sg) ⊕ (Int32 × Sg)) :=
  Option.bind (rd x3 7) (fun j4 => some (.inl (xs0 + (σ.1 23 0 0 j4), x3 + (iI 1), σ)))
theorem sj_M_status_37 {x : Cx} {g : Gv} {ρ : Option Value × Sg} (hc : Zc x g c_M_status R_M 4 (some .int) 1) (x1 : Int32) (x3 : Int32) (xs0 : Int32) (σ : Sg) (r : (Int32 × Int32 × Sg) ⊕ (Int32 × Sg)) (hf : j_M_status_37 x1 x3 xs0 σ = some r) (hi : ∀ a', r = .inl a' → Z x g 4 ρ 20 [(0, .ref (gAd g (6, 0, 0))), (1, .int x1), (2, .int a'.1), (3, .int a'.2.1)] [] a'.2.2) (he0 : ∀ b, r = .inr b → Z x g 4 ρ 55 [(2, .int b.1)] [] b.2) : Z x g 4 ρ 37 [(0, .ref (gAd g (6, 0, 0))), (1, .int x1), (3, .int x3)] [.int xs0] σ := by
  unfold j_M_status_37 at hf
  refine z_aload_n hc d_M_status_37 0 rfl ?_
  refine gf_M_19 hc d_M_status_38  ?_
  refine z_iload_n hc d_M_status_41 2 rfl ?_
  obtain ⟨j4, hj5, hf⟩ := bd hf
  refine ald_mfound hc d_M_status_42  hj5 ?_
  refine z_goto (tgt := 47) hc d_M_status_43 (by decide) ?_
  refine z_iadd hc d_M_status_47 ?_
  refine z_istore_n (L' := [(2, .int (xs0 + (σ.1 23 0 0 j4))), (0, .ref (gAd g (6, 0, 0))), (1, .int x1), (3, .int x3)]) hc d_M_status_48 (by decide) rfl ?_
  refine z_iinc (v := x3 + (iI 1)) (L' := [(3, .int (x3 + (iI 1))), (2, .int (xs0 + (σ.1 23 0 0 j4))), (0, .ref (gAd g (6, 0, 0))), (1, .int x1)]) hc d_M_status_49 3 rfl rfl (by decide) rfl ?_
  refine z_goto (tgt := 20) hc d_M_status_52 (by decide) ?_
  refine z_sub [2, 3, 1, 0] (L' := [(0, .ref (gAd g (6, 0, 0))), (1, .int x1), (2, .int (xs0 + (σ.1 23 0 0 j4))), (3, .int (x3 + (iI 1)))]) rfl ?_
  exact hi (xs0 + (σ.1 23 0 0 j4), x3 + (iI 1), σ) (Option.some.inj hf).symm
def b_M_status_20 (x1 : Int32) (x2 : Int32) (x3 : Int32) (σ : Sg) : Option ((Int32 × Int32 × Sg) ⊕ (Int32 × Sg)) :=
  (if (iI 7) ≤ x3 then some (.inr (x2, σ)) else (if x1 = (iI (-1)) then j_M_status_37 x1 x3 x2 σ else (if x1 = x3 then j_M_status_37 x1 x3 x2 σ else some (.inl (x2 + (iI 0), x3 + (iI 1), σ)))))
theorem sb_M_status_20 {x : Cx} {g : Gv} {ρ : Option Value × Sg} (hc : Zc x g c_M_status R_M 4 (some .int) 1) (x1 : Int32) (x2 : Int32) (x3 : Int32) (σ : Sg) (r : (Int32 × Int32 × Sg) ⊕ (Int32 × Sg)) (hf : b_M_status_20 x1 x2 x3 σ = some r) (hi : ∀ a', r = .inl a' → Z x g 4 ρ 20 [(0, .ref (gAd g (6, 0, 0))), (1, .int x1), (2, .int a'.1), (3, .int a'.2.1)] [] a'.2.2) (he0 : ∀ b, r = .inr b → Z x g 4 ρ 55 [(2, .int b.1)] [] b.2) : Z x g 4 ρ 20 [(0, .ref (gAd g (6, 0, 0))), (1, .int x1), (2, .int x2), (3, .int x3)] [] σ := by
  unfold b_M_status_20 at hf
  refine z_iload_n hc d_M_status_20 3 rfl ?_
  refine z_bipush (v := (iI 7)) hc d_M_status_21 (by decide) ?_
  refine z_icmp_ge (tgt := 55) hc d_M_status_23 (by decide) (fun hq => ?_) (fun hq => ?_)
  · have hf := ifp hq hf
    refine z_sub [2] (L' := [(2, .int x2)]) rfl ?_
    exact he0 (x2, σ) (Option.some.inj hf).symm
  · have hf := ifn hq hf
    refine z_iload_n hc d_M_status_26 2 rfl ?_
    refine z_iload_n hc d_M_status_27 1 rfl ?_
    refine z_iconst (v := (iI (-1))) hc d_M_status_28 (by decide) ?_
    refine z_icmp_eq (tgt := 37) hc d_M_status_29 (by decide) (fun hq => ?_) (fun hq => ?_)
    · have hf := ifp hq hf
      refine z_sub [0, 1, 3] (L' := [(0, .ref (gAd g (6, 0, 0))), (1, .int x1), (3, .int x3)]) rfl ?_
      exact sj_M_status_37 hc x1 x3 x2   σ _ hf hi he0
    · have hf := ifn hq hf
      refine z_iload_n hc d_M_status_32 1 rfl ?_
      refine z_iload_n hc d_M_status_33 3 rfl ?_
      refine z_icmp_ne (tgt := 46) hc d_M_status_34 (by decide) (fun hq => ?_) (fun hq => ?_)
      · have hf := ifn hq hf
        refine z_iconst (v := (iI 0)) hc d_M_status_46 (by decide) ?_
        refine z_iadd hc d_M_status_47 ?_
        refine z_istore_n (L' := [(2, .int (x2 + (iI 0))), (0, .ref (gAd g (6, 0, 0))), (1, .int x1), (3, .int x3)]) hc d_M_status_48 (by decide) rfl ?_
        refine z_iinc (v := x3 + (iI 1)) (L' := [(3, .int (x3 + (iI 1))), (2, .int (x2 + (iI 0))), (0, .ref (gAd g (6, 0, 0))), (1, .int x1)]) hc d_M_status_49 3 rfl rfl (by decide) rfl ?_
        refine z_goto (tgt := 20) hc d_M_status_52 (by decide) ?_
        refine z_sub [2, 3, 1, 0] (L' := [(0, .ref (gAd g (6, 0, 0))), (1, .int x1), (2, .int (x2 + (iI 0))), (3, .int (x3 + (iI 1)))]) rfl ?_
        exact hi (x2 + (iI 0), x3 + (iI 1), σ) (Option.some.inj hf).symm
      · have hf := ifp hq hf
        refine z_sub [0, 1, 3] (L' := [(0, .ref (gAd g (6, 0, 0))), (1, .int x1), (3, .int x3)]) rfl ?_
        exact sj_M_status_37 hc x1 x3 x2   σ _ hf hi he0
def f_M_status (x1 : Int32) (σ : Sg) : Option (Int32 × Sg) :=
  b2 (f_M_in1 x1 (iI (-1)) (iI 6) σ) (fun v1 σ2 => (if v1 = (iI 0) then b2 (f_M_no (iI 0) σ2) (fun v11 σ12 => some (v11, σ12)) else Option.bind (lp (fun a => b_M_status_20 x1 a.1 a.2.1 a.2.2) FU ((iI 0), (iI 0), σ2)) (fun b9 => some (b9.1, b9.2))))
theorem ok_M_status (g : Gv) (x1 : Int32) (σ : Sg) (r : Int32 × Sg) (hf : f_M_status x1 σ = some r) : Ok g y_M_status c_M_status 4 (some .int) 1 [.ref (gAd g (6, 0, 0)), .int x1] σ (some (.int r.1), r.2) := by
  unfold f_M_status at hf
  refine Ok.of [(0, .ref (gAd g (6, 0, 0))), (1, .int x1)] (by decide) (Nat.le_of_ble_eq_true rfl) rfl ?_
  intro x hc
  have hc : Zc x g c_M_status R_M 4 (some .int) 1 := hc
  obtain ⟨ρ, hρ⟩ : ∃ ρ : Option Value × Sg, ρ = (some (.int r.1), r.2) := ⟨_, rfl⟩
  rw [← hρ]
  refine z_iload_n hc d_M_status_0 1 rfl ?_
  refine z_iconst (v := (iI (-1))) hc d_M_status_1 (by decide) ?_
  refine z_bipush (v := (iI 6)) hc d_M_status_2 (by decide) ?_
  obtain ⟨v1, σ2, h3, hf⟩ := bd2 hf
  refine cz_M_49 hc d_M_status_4 (by decide)  h3 (Nat.le_of_ble_eq_true rfl) ?_
  refine z_if_ne (tgt := 16) hc d_M_status_7 (by decide) (fun hq => ?_) (fun hq => ?_)
  · have hf := ifn hq hf
    refine z_iconst (v := (iI 0)) hc d_M_status_16 (by decide) ?_
    refine z_istore_n (L' := [(2, .int (iI 0)), (0, .ref (gAd g (6, 0, 0))), (1, .int x1)]) hc d_M_status_17 (by decide) rfl ?_
    refine z_iconst (v := (iI 0)) hc d_M_status_18 (by decide) ?_
    refine z_istore_n (L' := [(3, .int (iI 0)), (2, .int (iI 0)), (0, .ref (gAd g (6, 0, 0))), (1, .int x1)]) hc d_M_status_19 (by decide) rfl ?_
    refine z_sub [2, 3, 1, 0] (L' := [(0, .ref (gAd g (6, 0, 0))), (1, .int x1), (2, .int (iI 0)), (3, .int (iI 0))]) rfl ?_
    obtain ⟨⟨y7, σ8⟩, hl10, hf⟩ := bd hf
    try dsimp only at hf
    refine lp_walk (α := (Int32 × Int32 × Sg)) (β := (Int32 × Sg)) (body := (fun a : (Int32 × Int32 × Sg) => b_M_status_20 x1 a.1 a.2.1 a.2.2)) (In := (fun a : (Int32 × Int32 × Sg) => Z x g 4 ρ 20 [(0, .ref (gAd g (6, 0, 0))), (1, .int x1), (2, .int a.1), (3, .int a.2.1)] [] a.2.2)) (Out := (fun b => Z x g 4 ρ 55 [(2, .int b.1)] [] b.2)) (fun a r hb hi ho => sb_M_status_20 hc x1  a.1 a.2.1 a.2.2 r hb hi (fun b e => ho _ e)) FU ((iI 0), (iI 0), σ2) _ hl10 ?_
    dsimp only
    refine z_iload_n hc d_M_status_55 0 rfl ?_
    exact z_iret hc d_M_status_56 (rI hf hρ)
  · have hf := ifp hq hf
    refine z_aload_n hc d_M_status_10 0 rfl ?_
    refine z_iconst (v := (iI 0)) hc d_M_status_11 (by decide) ?_
    obtain ⟨v11, σ12, h13, hf⟩ := bd2 hf
    refine cz_M_92 hc d_M_status_12 (by decide)  h13 (Nat.le_of_ble_eq_true rfl) ?_
    exact z_iret hc d_M_status_15 (rI hf hρ)
