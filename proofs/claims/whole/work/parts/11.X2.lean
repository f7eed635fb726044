def f_X_within (x0 : Int32) (x1 : Int32) (x2 : Int32) (σ : Sg) : Option (Int32 × Sg) :=
  (if x0 < x1 then some ((iI 0), σ) else (if x2 < x0 then some ((iI 0), σ) else some ((iI 1), σ)))
theorem ok_X_within (g : Gv) (x0 : Int32) (x1 : Int32) (x2 : Int32) (σ : Sg) (r : Int32 × Sg) (hf : f_X_within x0 x1 x2 σ = some r) : Ok g y_X_within c_X_within 3 (some .boolean) 0 [.int x0, .int x1, .int x2] σ (some (.int r.1), r.2) := by
  unfold f_X_within at hf
  refine Ok.of [(0, .int x0), (1, .int x1), (2, .int x2)] (by decide) (Nat.le_of_ble_eq_true rfl) rfl ?_
  intro x hc
  have hc : Zc x g c_X_within R_X 3 (some .boolean) 0 := hc
  obtain ⟨ρ, hρ⟩ : ∃ ρ : Option Value × Sg, ρ = (some (.int r.1), r.2) := ⟨_, rfl⟩
  rw [← hρ]
  refine z_iload_n hc d_X_within_0 0 rfl ?_
  refine z_iload_n hc d_X_within_1 1 rfl ?_
  refine z_icmp_lt (tgt := 14) hc d_X_within_2 (by decide) (fun hq => ?_) (fun hq => ?_)
  · have hf := ifp hq hf
    refine z_iconst (v := (iI 0)) hc d_X_within_14 (by decide) ?_
    exact z_zret hc d_X_within_15 (by decide) (rI hf hρ)
  · have hf := ifn hq hf
    refine z_iload_n hc d_X_within_5 0 rfl ?_
    refine z_iload_n hc d_X_within_6 2 rfl ?_
    refine z_icmp_gt (tgt := 14) hc d_X_within_7 (by decide) (fun hq => ?_) (fun hq => ?_)
    · have hf := ifp hq hf
      refine z_iconst (v := (iI 0)) hc d_X_within_14 (by decide) ?_
      exact z_zret hc d_X_within_15 (by decide) (rI hf hρ)
    · have hf := ifn hq hf
      refine z_iconst (v := (iI 1)) hc d_X_within_10 (by decide) ?_
      refine z_goto (tgt := 15) hc d_X_within_11 (by decide) ?_
      exact z_zret hc d_X_within_15 (by decide) (rI hf hρ)
theorem vl_X_85 : SL R_X 85 y_X_within c_X_within 3 (some .boolean) 3 := ⟨tb2 36 (by decide +kernel) (by decide +kernel), tb2 37 (by decide +kernel) (by decide +kernel), tb1 1 (by decide +kernel) (by decide +kernel), k_X_within, by decide, by decide, by decide +kernel, by decide⟩
theorem cz_X_85 {x : Cx} {g : Gv} {cc : ByteArray} {nL d pc : Nat} {ret : Option FieldType} {ρ : Option Value × Sg} {L : List (Nat × Value)} {st : List Value} {σ : Sg} (hc : Zc x g cc R_X nL ret d) (hd : decode cc pc = .ok (.invokestatic 85, 3)) (hdd : 1 ≤ d) {x0 : Int32} {x1 : Int32} {x2 : Int32} {v : Int32} {σ1 : Sg} (hf : f_X_within x0 x1 x2 σ = some (v, σ1)) (hst : (st.map (fun v => v.category)).sum ≤ 8) (k : Z x g nL ρ (pc + 3) L (.int v :: st) σ1) : Z x g nL ρ pc L (.int x2 :: .int x1 :: .int x0 :: st) σ := z_callS (As := [.int x0, .int x1, .int x2]) hc hd vl_X_85 hdd (ok_X_within g x0 x1 x2 σ (v, σ1) hf) rfl rfl hst rfl k
def f_X_found (x1 : Int32) (σ : Sg) : Option (Int32 × Sg) :=
  b2 (f_X_within ((iI (-1000000001)) - x1) (iI 0) (iI 6) σ) (fun v1 σ2 => (if v1 = (iI 0) then some (x1, σ2) else Option.bind (rd ((iI (-1000000001)) - x1) 7) (fun j4 => Option.bind (rd ((iI (-1000000001)) - x1) 7) (fun j6 => some (x1, upI σ2 18 0 0 j6 ((σ2.1 18 0 0 j4) + (iI 1)))))))
theorem ok_X_found (g : Gv) (x1 : Int32) (σ : Sg) (r : Int32 × Sg) (hf : f_X_found x1 σ = some r) : Ok g y_X_found c_X_found 3 (some .int) 1 [.ref (gAd g (0, 0, 0)), .int x1] σ (some (.int r.1), r.2) := by
  unfold f_X_found at hf
  refine Ok.of [(0, .ref (gAd g (0, 0, 0))), (1, .int x1)] (by decide) (Nat.le_of_ble_eq_true rfl) rfl ?_
  intro x hc
  have hc : Zc x g c_X_found R_X 3 (some .int) 1 := hc
  obtain ⟨ρ, hρ⟩ : ∃ ρ : Option Value × Sg, ρ = (some (.int r.1), r.2) := ⟨_, rfl⟩
  rw [← hρ]
  refine z_ldc (v := (iI (-1000000001))) hc co_X_89 d_X_found_0 ?_
  refine z_iload_n hc d_X_found_2 1 rfl ?_
  refine z_isub hc d_X_found_3 ?_
  refine z_istore_n (L' := [(2, .int ((iI (-1000000001)) - x1)), (0, .ref (gAd g (0, 0, 0))), (1, .int x1)]) hc d_X_found_4 (by decide) rfl ?_
  refine z_iload_n hc d_X_found_5 0 rfl ?_
  refine z_iconst (v := (iI 0)) hc d_X_found_6 (by decide) ?_
  refine z_bipush (v := (iI 6)) hc d_X_found_7 (by decide) ?_
  obtain ⟨v1, σ2, h3, hf⟩ := bd2 hf
  refine cz_X_85 hc d_X_found_9 (by decide)  h3 (Nat.le_of_ble_eq_true rfl) ?_
  refine z_if_eq (tgt := 25) hc d_X_found_12 (by decide) (fun hq => ?_) (fun hq => ?_)
  · have hf := ifp hq hf
    refine z_iload_n hc d_X_found_25 2 rfl ?_
    exact z_iret hc d_X_found_26 (rI hf hρ)
  · have hf := ifn hq hf
    refine z_aload_n hc d_X_found_15 1 rfl ?_
    refine gf_X_81 hc d_X_found_16  ?_
    refine z_iload_n hc d_X_found_19 0 rfl ?_
    refine z_dup2 hc d_X_found_20 rfl rfl ?_
    obtain ⟨j4, hj5, hf⟩ := bd hf
    refine ald_tallies hc d_X_found_21  hj5 ?_
    refine z_iconst (v := (iI 1)) hc d_X_found_22 (by decide) ?_
    refine z_iadd hc d_X_found_23 ?_
    obtain ⟨j6, hj7, hf⟩ := bd hf
    refine ast_tallies hc d_X_found_24  hj7 ?_
    refine z_iload_n hc d_X_found_25 2 rfl ?_
    exact z_iret hc d_X_found_26 (rI hf hρ)
theorem vl_X_90 : VL R_X 90 y_X_found c_X_found 3 (some .int) 1 := ⟨tb2 40 (by decide +kernel) (by decide +kernel), tb2 42 (by decide +kernel) (by decide +kernel), tbp 0 (by decide +kernel), tb1 1 (by decide +kernel) (by decide +kernel), k_X_found, by decide, by decide, by decide +kernel, by decide⟩
theorem cz_X_90 {x : Cx} {g : Gv} {cc : ByteArray} {nL d pc : Nat} {ret : Option FieldType} {ρ : Option Value × Sg} {L : List (Nat × Value)} {st : List Value} {σ : Sg} (hc : Zc x g cc R_X nL ret d) (hd : decode cc pc = .ok (.invokevirtual 90, 3)) (hdd : 2 ≤ d) {x1 : Int32} {v : Int32} {σ1 : Sg} (hf : f_X_found x1 σ = some (v, σ1)) (hst : (st.map (fun v => v.category)).sum ≤ 8) (k : Z x g nL ρ (pc + 3) L (.int v :: st) σ1) : Z x g nL ρ pc L (.int x1 :: .ref (gAd g (0, 0, 0)) :: st) σ := z_callV (ci := 10) (As := [.int x1]) hc hd vl_X_90 hdd (0, 0, 0) (dm_X) rfl rfl (ok_X_found g x1 σ (v, σ1) hf) rfl rfl hst rfl k
def j_X_rain_19 (σ : Sg) : Option (Int32 × Sg) :=
  b2 (f_X_found (iI (-1000000001)) σ) (fun v4 σ5 => some (v4, σ5))
theorem sj_X_rain_19 {x : Cx} {g : Gv} {ρ : Option Value × Sg} (hc : Zc x g c_X_rain R_X 4 (some .int) 2) (σ : Sg) (r : Int32 × Sg) (hf : j_X_rain_19 σ = some r) (hρ : ρ = (some (.int r.1), r.2)) : Z x g 4 ρ 19 [(0, .ref (gAd g (0, 0, 0)))] [] σ := by
  unfold j_X_rain_19 at hf
  refine z_aload_n hc d_X_rain_19 0 rfl ?_
  refine z_ldc (v := (iI (-1000000001))) hc co_X_89 d_X_rain_20 ?_
  obtain ⟨v4, σ5, h6, hf⟩ := bd2 hf
  refine cz_X_90 hc d_X_rain_22 (by decide)  h6 (Nat.le_of_ble_eq_true rfl) ?_
  exact z_iret hc d_X_rain_25 (rI hf hρ)
def f_X_rain (x1 : Int32) (x2 : Int32) (σ : Sg) : Option (Int32 × Sg) :=
  b2 (f_X_within x1 (iI 0) (iI 6) σ) (fun v1 σ2 => (if v1 = (iI 0) then j_X_rain_19   σ2 else b2 (f_X_within x2 (iI 0) (iI 1) σ2) (fun v7 σ8 => (if v7 = (iI 0) then j_X_rain_19   σ8 else Option.bind (rd x1 7) (fun j10 => Option.bind (rd x1 7) (fun j12 => some (σ8.1 12 0 0 j10, upI σ8 12 0 0 j12 x2)))))))
theorem ok_X_rain (g : Gv) (x1 : Int32) (x2 : Int32) (σ : Sg) (r : Int32 × Sg) (hf : f_X_rain x1 x2 σ = some r) : Ok g y_X_rain c_X_rain 4 (some .int) 2 [.ref (gAd g (0, 0, 0)), .int x1, .int x2] σ (some (.int r.1), r.2) := by
  unfold f_X_rain at hf
  refine Ok.of [(0, .ref (gAd g (0, 0, 0))), (1, .int x1), (2, .int x2)] (by decide) (Nat.le_of_ble_eq_true rfl) rfl ?_
  intro x hc
  have hc : Zc x g c_X_rain R_X 4 (some .int) 2 := hc
  obtain ⟨ρ, hρ⟩ : ∃ ρ : Option Value × Sg, ρ = (some (.int r.1), r.2) := ⟨_, rfl⟩
  rw [← hρ]
  refine z_iload_n hc d_X_rain_0 1 rfl ?_
  refine z_iconst (v := (iI 0)) hc d_X_rain_1 (by decide) ?_
  refine z_bipush (v := (iI 6)) hc d_X_rain_2 (by decide) ?_
  obtain ⟨v1, σ2, h3, hf⟩ := bd2 hf
  refine cz_X_85 hc d_X_rain_4 (by decide)  h3 (Nat.le_of_ble_eq_true rfl) ?_
  refine z_if_eq (tgt := 19) hc d_X_rain_7 (by decide) (fun hq => ?_) (fun hq => ?_)
  · have hf := ifp hq hf
    refine z_sub [0] (L' := [(0, .ref (gAd g (0, 0, 0)))]) rfl ?_
    exact sj_X_rain_19 hc     σ2 _ hf hρ
  · have hf := ifn hq hf
    refine z_iload_n hc d_X_rain_10 2 rfl ?_
    refine z_iconst (v := (iI 0)) hc d_X_rain_11 (by decide) ?_
    refine z_iconst (v := (iI 1)) hc d_X_rain_12 (by decide) ?_
    obtain ⟨v7, σ8, h9, hf⟩ := bd2 hf
    refine cz_X_85 hc d_X_rain_13 (by decide)  h9 (Nat.le_of_ble_eq_true rfl) ?_
    refine z_if_ne (tgt := 26) hc d_X_rain_16 (by decide) (fun hq => ?_) (fun hq => ?_)
    · have hf := ifn hq hf
      refine z_aload_n hc d_X_rain_26 0 rfl ?_
      refine gf_X_50 hc d_X_rain_27  ?_
      refine gf_X_94 hc d_X_rain_30 (by decide) ?_
      refine z_iload_n hc d_X_rain_33 1 rfl ?_
      obtain ⟨j10, hj11, hf⟩ := bd hf
      refine ald_rain hc d_X_rain_34 (by decide) hj11 ?_
      refine z_istore_n (L' := [(3, .int (σ8.1 12 0 0 j10)), (0, .ref (gAd g (0, 0, 0))), (1, .int x1), (2, .int x2)]) hc d_X_rain_35 (by decide) rfl ?_
      refine z_aload_n hc d_X_rain_36 1 rfl ?_
      refine gf_X_50 hc d_X_rain_37  ?_
      refine gf_X_94 hc d_X_rain_40 (by decide) ?_
      refine z_iload_n hc d_X_rain_43 2 rfl ?_
      refine z_iload_n hc d_X_rain_44 3 rfl ?_
      obtain ⟨j12, hj13, hf⟩ := bd hf
      refine ast_rain hc d_X_rain_45 (by decide) hj13 ?_
      refine z_iload_n hc d_X_rain_46 0 rfl ?_
      exact z_iret hc d_X_rain_47 (rI hf hρ)
    · have hf := ifp hq hf
      refine z_sub [0] (L' := [(0, .ref (gAd g (0, 0, 0)))]) rfl ?_
      exact sj_X_rain_19 hc     σ8 _ hf hρ
theorem vl_X_103 : VL R_X 103 y_World_setAt c_World_setAt 4 (some .int) 1 := ⟨tb2 98 (by decide +kernel) (by decide +kernel), tb2 99 (by decide +kernel) (by decide +kernel), tb2 100 (by decide +kernel) (by decide +kernel), tb1 8 (by decide +kernel) (by decide +kernel), k_World_setAt, by decide, by decide, by decide +kernel, by decide⟩
theorem cz_X_103 {x : Cx} {g : Gv} {cc : ByteArray} {nL d pc : Nat} {ret : Option FieldType} {ρ : Option Value × Sg} {L : List (Nat × Value)} {st : List Value} {σ : Sg} (hc : Zc x g cc R_X nL ret d) (hd : decode cc pc = .ok (.invokevirtual 103, 3)) (hdd : 5 ≤ d) {w0 : Nat} {x1 : Int32} (hv0 : w0 < 3) {v : Int32} {σ1 : Sg} (hf : f_World_setAt w0 x1 σ = some (v, σ1)) (hst : (st.map (fun v => v.category)).sum ≤ 8) (k : Z x g nL ρ (pc + 3) L (.int v :: st) σ1) : Z x g nL ρ pc L (.int x1 :: .ref (gAd g (1, w0, 0)) :: st) σ := z_callV (ci := 9) (As := [.int x1]) hc hd vl_X_103 hdd (1, w0, 0) (dm_World hv0) rfl rfl (ok_World_setAt g w0 x1 hv0 σ (v, σ1) hf) rfl rfl hst rfl k
theorem vl_X_100 : VL R_X 100 y_World_topAt c_World_topAt 4 (some .int) 1 := ⟨tb2 97 (by decide +kernel) (by decide +kernel), tb2 53 (by decide +kernel) (by decide +kernel), tb2 54 (by decide +kernel) (by decide +kernel), tb1 8 (by decide +kernel) (by decide +kernel), k_World_topAt, by decide, by decide, by decide +kernel, by decide⟩
theorem cz_X_100 {x : Cx} {g : Gv} {cc : ByteArray} {nL d pc : Nat} {ret : Option FieldType} {ρ : Option Value × Sg} {L : List (Nat × Value)} {st : List Value} {σ : Sg} (hc : Zc x g cc R_X nL ret d) (hd : decode cc pc = .ok (.invokevirtual 100, 3)) (hdd : 5 ≤ d) {w0 : Nat} {x1 : Int32} (hv0 : w0 < 3) {v : Int32} {σ1 : Sg} (hf : f_World_topAt w0 x1 σ = some (v, σ1)) (hst : (st.map (fun v => v.category)).sum ≤ 8) (k : Z x g nL ρ (pc + 3) L (.int v :: st) σ1) : Z x g nL ρ pc L (.int x1 :: .ref (gAd g (1, w0, 0)) :: st) σ := z_callV (ci := 9) (As := [.int x1]) hc hd vl_X_100 hdd (1, w0, 0) (dm_World hv0) rfl rfl (ok_World_topAt g w0 x1 hv0 σ (v, σ1) hf) rfl rfl hst rfl k
theorem vl_X_97 : VL R_X 97 y_World_ownerAt c_World_ownerAt 3 (some .int) 1 := ⟨tb2 48 (by decide +kernel) (by decide +kernel), tb2 49 (by decide +kernel) (by decide +kernel), tb2 50 (by decide +kernel) (by decide +kernel), tb1 8 (by decide +kernel) (by decide +kernel), k_World_ownerAt, by decide, by decide, by decide +kernel, by decide⟩
theorem cz_X_97 {x : Cx} {g : Gv} {cc : ByteArray} {nL d pc : Nat} {ret : Option FieldType} {ρ : Option Value × Sg} {L : List (Nat × Value)} {st : List Value} {σ : Sg} (hc : Zc x g cc R_X nL ret d) (hd : decode cc pc = .ok (.invokevirtual 97, 3)) (hdd : 6 ≤ d) {w0 : Nat} {x1 : Int32} (hv0 : w0 < 3) {v : Int32} {σ1 : Sg} (hf : f_World_ownerAt w0 x1 σ = some (v, σ1)) (hst : (st.map (fun v => v.category)).sum ≤ 8) (k : Z x g nL ρ (pc + 3) L (.int v :: st) σ1) : Z x g nL ρ pc L (.int x1 :: .ref (gAd g (1, w0, 0)) :: st) σ := z_callV (ci := 9) (As := [.int x1]) hc hd vl_X_97 hdd (1, w0, 0) (dm_World hv0) rfl rfl (ok_World_ownerAt g w0 x1 hv0 σ (v, σ1) hf) rfl rfl hst rfl k
def j_X_yard_19 (σ : Sg) : Option (Int32 × Sg) :=
  b2 (f_X_found (iI (-1000000001)) σ) (fun v4 σ5 => some (v4, σ5))
theorem sj_X_yard_19 {x : Cx} {g : Gv} {ρ : Option Value × Sg} (hc : Zc x g c_X_yard R_X 3 (some .int) 6) (σ : Sg) (r : Int32 × Sg) (hf : j_X_yard_19 σ = some r) (hρ : ρ = (some (.int r.1), r.2)) : Z x g 3 ρ 19 [(0, .ref (gAd g (0, 0, 0)))] [] σ := by
  unfold j_X_yard_19 at hf
  refine z_aload_n hc d_X_yard_19 0 rfl ?_
  refine z_ldc (v := (iI (-1000000001))) hc co_X_89 d_X_yard_20 ?_
  obtain ⟨v4, σ5, h6, hf⟩ := bd2 hf
  refine cz_X_90 hc d_X_yard_22 (by decide)  h6 (Nat.le_of_ble_eq_true rfl) ?_
  exact z_iret hc d_X_yard_25 (rI hf hρ)
def f_X_yard (x1 : Int32) (x2 : Int32) (σ : Sg) : Option (Int32 × Sg) :=
  b2 (f_X_within x1 (iI 0) (iI 39) σ) (fun v1 σ2 => (if v1 = (iI 0) then j_X_yard_19   σ2 else b2 (f_X_within x2 (iI 0) (iI 2) σ2) (fun v7 σ8 => (if v7 = (iI 0) then j_X_yard_19   σ8 else (if x2 = (iI 0) then b2 (f_World_ownerAt 0 x1 σ8) (fun v16 σ17 => some (v16, σ17)) else (if x2 = (iI 1) then b2 (f_World_topAt 0 x1 σ8) (fun v13 σ14 => some (v13, σ14)) else b2 (f_World_setAt 0 x1 σ8) (fun v10 σ11 => some (v10, σ11))))))))
theorem ok_X_yard (g : Gv) (x1 : Int32) (x2 : Int32) (σ : Sg) (r : Int32 × Sg) (hf : f_X_yard x1 x2 σ = some r) : Ok g y_X_yard c_X_yard 3 (some .int) 6 [.ref (gAd g (0, 0, 0)), .int x1, .int x2] σ (some (.int r.1), r.2) := by
  unfold f_X_yard at hf
  refine Ok.of [(0, .ref (gAd g (0, 0, 0))), (1, .int x1), (2, .int x2)] (by decide) (Nat.le_of_ble_eq_true rfl) rfl ?_
  intro x hc
  have hc : Zc x g c_X_yard R_X 3 (some .int) 6 := hc
  obtain ⟨ρ, hρ⟩ : ∃ ρ : Option Value × Sg, ρ = (some (.int r.1), r.2) := ⟨_, rfl⟩
  rw [← hρ]
  refine z_iload_n hc d_X_yard_0 1 rfl ?_
  refine z_iconst (v := (iI 0)) hc d_X_yard_1 (by decide) ?_
  refine z_bipush (v := (iI 39)) hc d_X_yard_2 (by decide) ?_
  obtain ⟨v1, σ2, h3, hf⟩ := bd2 hf
  refine cz_X_85 hc d_X_yard_4 (by decide)  h3 (Nat.le_of_ble_eq_true rfl) ?_
  refine z_if_eq (tgt := 19) hc d_X_yard_7 (by decide) (fun hq => ?_) (fun hq => ?_)
  · have hf := ifp hq hf
    refine z_sub [0] (L' := [(0, .ref (gAd g (0, 0, 0)))]) rfl ?_
    exact sj_X_yard_19 hc     σ2 _ hf hρ
  · have hf := ifn hq hf
    refine z_iload_n hc d_X_yard_10 2 rfl ?_
    refine z_iconst (v := (iI 0)) hc d_X_yard_11 (by decide) ?_
    refine z_iconst (v := (iI 2)) hc d_X_yard_12 (by decide) ?_
    obtain ⟨v7, σ8, h9, hf⟩ := bd2 hf
    refine cz_X_85 hc d_X_yard_13 (by decide)  h9 (Nat.le_of_ble_eq_true rfl) ?_
    refine z_if_ne (tgt := 26) hc d_X_yard_16 (by decide) (fun hq => ?_) (fun hq => ?_)
    · have hf := ifn hq hf
      refine z_iload_n hc d_X_yard_26 2 rfl ?_
      refine z_if_ne (tgt := 39) hc d_X_yard_27 (by decide) (fun hq => ?_) (fun hq => ?_)
      · have hf := ifn hq hf
        refine z_iload_n hc d_X_yard_39 2 rfl ?_
        refine z_iconst (v := (iI 1)) hc d_X_yard_40 (by decide) ?_
        refine z_icmp_ne (tgt := 55) hc d_X_yard_41 (by decide) (fun hq => ?_) (fun hq => ?_)
        · have hf := ifn hq hf
          refine z_aload_n hc d_X_yard_55 0 rfl ?_
          refine gf_X_50 hc d_X_yard_56  ?_
          refine z_iload_n hc d_X_yard_59 1 rfl ?_
          obtain ⟨v10, σ11, h12, hf⟩ := bd2 hf
          refine cz_X_103 hc d_X_yard_60 (by decide) (by decide) h12 (Nat.le_of_ble_eq_true rfl) ?_
          exact z_iret hc d_X_yard_63 (rI hf hρ)
        · have hf := ifp hq hf
          refine z_aload_n hc d_X_yard_44 0 rfl ?_
          refine gf_X_50 hc d_X_yard_45  ?_
          refine z_iload_n hc d_X_yard_48 1 rfl ?_
          obtain ⟨v13, σ14, h15, hf⟩ := bd2 hf
          refine cz_X_100 hc d_X_yard_49 (by decide) (by decide) h15 (Nat.le_of_ble_eq_true rfl) ?_
          refine z_goto (tgt := 63) hc d_X_yard_52 (by decide) ?_
          exact z_iret hc d_X_yard_63 (rI hf hρ)
      · have hf := ifp hq hf
        refine z_aload_n hc d_X_yard_30 0 rfl ?_
        refine gf_X_50 hc d_X_yard_31  ?_
        refine z_iload_n hc d_X_yard_34 1 rfl ?_
        obtain ⟨v16, σ17, h18, hf⟩ := bd2 hf
        refine cz_X_97 hc d_X_yard_35 (by decide) (by decide) h18 (Nat.le_of_ble_eq_true rfl) ?_
        exact z_iret hc d_X_yard_38 (rI hf hρ)
    · have hf := ifp hq hf
      refine z_sub [0] (L' := [(0, .ref (gAd g (0, 0, 0)))]) rfl ?_
      exact sj_X_yard_19 hc     σ8 _ hf hρ
theorem vl_X_106 : VL R_X 106 y_World_yardsOf c_World_yardsOf 2 (some .int) 1 := ⟨tb2 106 (by decide +kernel) (by decide +kernel), tb2 107 (by decide +kernel) (by decide +kernel), tb2 108 (by decide +kernel) (by decide +kernel), tb1 8 (by decide +kernel) (by decide +kernel), k_World_yardsOf, by decide, by decide, by decide +kernel, by decide⟩
theorem cz_X_106 {x : Cx} {g : Gv} {cc : ByteArray} {nL d pc : Nat} {ret : Option FieldType} {ρ : Option Value × Sg} {L : List (Nat × Value)} {st : List Value} {σ : Sg} (hc : Zc x g cc R_X nL ret d) (hd : decode cc pc = .ok (.invokevirtual 106, 3)) (hdd : 6 ≤ d) {w0 : Nat} {x1 : Int32} (hv0 : w0 < 3) {v : Int32} {σ1 : Sg} (hf : f_World_yardsOf w0 x1 σ = some (v, σ1)) (hst : (st.map (fun v => v.category)).sum ≤ 8) (k : Z x g nL ρ (pc + 3) L (.int v :: st) σ1) : Z x g nL ρ pc L (.int x1 :: .ref (gAd g (1, w0, 0)) :: st) σ := z_callV (ci := 9) (As := [.int x1]) hc hd vl_X_106 hdd (1, w0, 0) (dm_World hv0) rfl rfl (ok_World_yardsOf g w0 x1 hv0 σ (v, σ1) hf) rfl rfl hst rfl k
def f_X_owns (x1 : Int32) (σ : Sg) : Option (Int32 × Sg) :=
  b2 (f_X_within x1 (iI (-1)) (iI 3) σ) (fun v1 σ2 => (if v1 = (iI 0) then b2 (f_X_found (iI (-1000000001)) σ2) (fun v7 σ8 => some (v7, σ8)) else b2 (f_World_yardsOf 0 x1 σ2) (fun v4 σ5 => some (v4, σ5))))
theorem ok_X_owns (g : Gv) (x1 : Int32) (σ : Sg) (r : Int32 × Sg) (hf : f_X_owns x1 σ = some r) : Ok g y_X_owns c_X_owns 2 (some .int) 6 [.ref (gAd g (0, 0, 0)), .int x1] σ (some (.int r.1), r.2) := by
  unfold f_X_owns at hf
  refine Ok.of [(0, .ref (gAd g (0, 0, 0))), (1, .int x1)] (by decide) (Nat.le_of_ble_eq_true rfl) rfl ?_
  intro x hc
  have hc : Zc x g c_X_owns R_X 2 (some .int) 6 := hc
  obtain ⟨ρ, hρ⟩ : ∃ ρ : Option Value × Sg, ρ = (some (.int r.1), r.2) := ⟨_, rfl⟩
  rw [← hρ]
  refine z_iload_n hc d_X_owns_0 1 rfl ?_
  refine z_iconst (v := (iI (-1))) hc d_X_owns_1 (by decide) ?_
  refine z_iconst (v := (iI 3)) hc d_X_owns_2 (by decide) ?_
  obtain ⟨v1, σ2, h3, hf⟩ := bd2 hf
  refine cz_X_85 hc d_X_owns_3 (by decide)  h3 (Nat.le_of_ble_eq_true rfl) ?_
  refine z_if_ne (tgt := 16) hc d_X_owns_6 (by decide) (fun hq => ?_) (fun hq => ?_)
  · have hf := ifn hq hf
    refine z_aload_n hc d_X_owns_16 0 rfl ?_
    refine gf_X_50 hc d_X_owns_17  ?_
    refine z_iload_n hc d_X_owns_20 1 rfl ?_
    obtain ⟨v4, σ5, h6, hf⟩ := bd2 hf
    refine cz_X_106 hc d_X_owns_21 (by decide) (by decide) h6 (Nat.le_of_ble_eq_true rfl) ?_
    exact z_iret hc d_X_owns_24 (rI hf hρ)
  · have hf := ifp hq hf
    refine z_aload_n hc d_X_owns_9 0 rfl ?_
    refine z_ldc (v := (iI (-1000000001))) hc co_X_89 d_X_owns_10 ?_
    obtain ⟨v7, σ8, h9, hf⟩ := bd2 hf
    refine cz_X_90 hc d_X_owns_12 (by decide)  h9 (Nat.le_of_ble_eq_true rfl) ?_
    exact z_iret hc d_X_owns_15 (rI hf hρ)
def b_X_borders_4 (x1 : Int32) (x2 : Int32) (σ : Sg) : Option ((Int32 × Int32 × Sg) ⊕ (Int32 × Sg)) :=
  (if (iI 39) ≤ x2 then some (.inr (x1, σ)) else b2 (f_World_ownerAt 0 x2 σ) (fun v1 σ2 => b2 (f_World_ownerAt 0 (x2 + (iI 1)) σ2) (fun v4 σ5 => (if v1 = v4 then some (.inl (x1, x2 + (iI 1), σ5)) else some (.inl (x1 + (iI 1), x2 + (iI 1), σ5))))))
theorem sb_X_borders_4 {x : Cx} {g : Gv} {ρ : Option Value × Sg} (hc : Zc x g c_X_borders R_X 3 (some .int) 6) (x1 : Int32) (x2 : Int32) (σ : Sg) (r : (Int32 × Int32 × Sg) ⊕ (Int32 × Sg)) (hf : b_X_borders_4 x1 x2 σ = some r) (hi : ∀ a', r = .inl a' → Z x g 3 ρ 4 [(0, .ref (gAd g (0, 0, 0))), (1, .int a'.1), (2, .int a'.2.1)] [] a'.2.2) (he0 : ∀ b, r = .inr b → Z x g 3 ρ 40 [(1, .int b.1)] [] b.2) : Z x g 3 ρ 4 [(0, .ref (gAd g (0, 0, 0))), (1, .int x1), (2, .int x2)] [] σ := by
  unfold b_X_borders_4 at hf
  refine z_iload_n hc d_X_borders_4 2 rfl ?_
  refine z_bipush (v := (iI 39)) hc d_X_borders_5 (by decide) ?_
  refine z_icmp_ge (tgt := 40) hc d_X_borders_7 (by decide) (fun hq => ?_) (fun hq => ?_)
  · have hf := ifp hq hf
    refine z_sub [1] (L' := [(1, .int x1)]) rfl ?_
    exact he0 (x1, σ) (Option.some.inj hf).symm
  · have hf := ifn hq hf
    refine z_aload_n hc d_X_borders_10 0 rfl ?_
    refine gf_X_50 hc d_X_borders_11  ?_
    refine z_iload_n hc d_X_borders_14 2 rfl ?_
    obtain ⟨v1, σ2, h3, hf⟩ := bd2 hf
    refine cz_X_97 hc d_X_borders_15 (by decide) (by decide) h3 (Nat.le_of_ble_eq_true rfl) ?_
    refine z_aload_n hc d_X_borders_18 0 rfl ?_
    refine gf_X_50 hc d_X_borders_19  ?_
    refine z_iload_n hc d_X_borders_22 2 rfl ?_
    refine z_iconst (v := (iI 1)) hc d_X_borders_23 (by decide) ?_
    refine z_iadd hc d_X_borders_24 ?_
    obtain ⟨v4, σ5, h6, hf⟩ := bd2 hf
    refine cz_X_97 hc d_X_borders_25 (by decide) (by decide) h6 (Nat.le_of_ble_eq_true rfl) ?_
    refine z_icmp_eq (tgt := 34) hc d_X_borders_28 (by decide) (fun hq => ?_) (fun hq => ?_)
    · have hf := ifp hq hf
      refine z_iinc (v := x2 + (iI 1)) (L' := [(2, .int (x2 + (iI 1))), (0, .ref (gAd g (0, 0, 0))), (1, .int x1)]) hc d_X_borders_34 2 rfl rfl (by decide) rfl ?_
      refine z_goto (tgt := 4) hc d_X_borders_37 (by decide) ?_
      refine z_sub [1, 2, 0] (L' := [(0, .ref (gAd g (0, 0, 0))), (1, .int x1), (2, .int (x2 + (iI 1)))]) rfl ?_
      exact hi (x1, x2 + (iI 1), σ5) (Option.some.inj hf).symm
    · have hf := ifn hq hf
      refine z_iinc (v := x1 + (iI 1)) (L' := [(1, .int (x1 + (iI 1))), (0, .ref (gAd g (0, 0, 0))), (2, .int x2)]) hc d_X_borders_31 1 rfl rfl (by decide) rfl ?_
      refine z_iinc (v := x2 + (iI 1)) (L' := [(2, .int (x2 + (iI 1))), (1, .int (x1 + (iI 1))), (0, .ref (gAd g (0, 0, 0)))]) hc d_X_borders_34 2 rfl rfl (by decide) rfl ?_
      refine z_goto (tgt := 4) hc d_X_borders_37 (by decide) ?_
      refine z_sub [2, 1, 0] (L' := [(0, .ref (gAd g (0, 0, 0))), (1, .int (x1 + (iI 1))), (2, .int (x2 + (iI 1)))]) rfl ?_
      exact hi (x1 + (iI 1), x2 + (iI 1), σ5) (Option.some.inj hf).symm
def f_X_borders (σ : Sg) : Option (Int32 × Sg) :=
  Option.bind (lp (fun a => b_X_borders_4  a.1 a.2.1 a.2.2) FU ((iI 0), (iI 0), σ)) (fun b10 => some (b10.1, b10.2))
theorem ok_X_borders (g : Gv) (σ : Sg) (r : Int32 × Sg) (hf : f_X_borders σ = some r) : Ok g y_X_borders c_X_borders 3 (some .int) 6 [.ref (gAd g (0, 0, 0))] σ (some (.int r.1), r.2) := by
  unfold f_X_borders at hf
  refine Ok.of [(0, .ref (gAd g (0, 0, 0)))] (by decide) (Nat.le_of_ble_eq_true rfl) rfl ?_
  intro x hc
  have hc : Zc x g c_X_borders R_X 3 (some .int) 6 := hc
  obtain ⟨ρ, hρ⟩ : ∃ ρ : Option Value × Sg, ρ = (some (.int r.1), r.2) := ⟨_, rfl⟩
  rw [← hρ]
  refine z_iconst (v := (iI 0)) hc d_X_borders_0 (by decide) ?_
  refine z_istore_n (L' := [(1, .int (iI 0)), (0, .ref (gAd g (0, 0, 0)))]) hc d_X_borders_1 (by decide) rfl ?_
  refine z_iconst (v := (iI 0)) hc d_X_borders_2 (by decide) ?_
  refine z_istore_n (L' := [(2, .int (iI 0)), (1, .int (iI 0)), (0, .ref (gAd g (0, 0, 0)))]) hc d_X_borders_3 (by decide) rfl ?_
  refine z_sub [2, 1, 0] (L' := [(0, .ref (gAd g (0, 0, 0))), (1, .int (iI 0)), (2, .int (iI 0))]) rfl ?_
  obtain ⟨⟨y8, σ9⟩, hl11, hf⟩ := bd hf
  try dsimp only at hf
  refine lp_walk (α := (Int32 × Int32 × Sg)) (β := (Int32 × Sg)) (body := (fun a : (Int32 × Int32 × Sg) => b_X_borders_4  a.1 a.2.1 a.2.2)) (In := (fun a : (Int32 × Int32 × Sg) => Z x g 3 ρ 4 [(0, .ref (gAd g (0, 0, 0))), (1, .int a.1), (2, .int a.2.1)] [] a.2.2)) (Out := (fun b => Z x g 3 ρ 40 [(1, .int b.1)] [] b.2)) (fun a r hb hi ho => sb_X_borders_4 hc   a.1 a.2.1 a.2.2 r hb hi (fun b e => ho _ e)) FU ((iI 0), (iI 0), σ) _ hl11 ?_
  dsimp only
  refine z_iload_n hc d_X_borders_40 0 rfl ?_
  exact z_iret hc d_X_borders_41 (rI hf hρ)
def b_X_walk_28 (x1 : Int32) (x2 : Int32) (x3 : Int32) (σ : Sg) : Option ((Int32 × Sg) ⊕ (Int32 × Sg)) :=
  (if (iI 39) ≤ x3 then some (.inr (x3, σ)) else b2 (f_World_ownerAt 0 (x3 + (iI 1)) σ) (fun v7 σ8 => (if v7 = x2 then some (.inl (x3 + (iI 1), σ8)) else some (.inr (x3, σ8)))))
theorem sb_X_walk_28 {x : Cx} {g : Gv} {ρ : Option Value × Sg} (hc : Zc x g c_X_walk R_X 5 (some .int) 6) (x1 : Int32) (x2 : Int32) (x3 : Int32) (σ : Sg) (r : (Int32 × Sg) ⊕ (Int32 × Sg)) (hf : b_X_walk_28 x1 x2 x3 σ = some r) (hi : ∀ a', r = .inl a' → Z x g 5 ρ 28 [(0, .ref (gAd g (0, 0, 0))), (1, .int x1), (2, .int x2), (3, .int a'.1)] [] a'.2) (he0 : ∀ b, r = .inr b → Z x g 5 ρ 54 [(0, .ref (gAd g (0, 0, 0))), (1, .int x1), (2, .int x2), (3, .int b.1)] [] b.2) : Z x g 5 ρ 28 [(0, .ref (gAd g (0, 0, 0))), (1, .int x1), (2, .int x2), (3, .int x3)] [] σ := by
  unfold b_X_walk_28 at hf
  refine z_iload_n hc d_X_walk_28 3 rfl ?_
  refine z_bipush (v := (iI 39)) hc d_X_walk_29 (by decide) ?_
  refine z_icmp_ge (tgt := 54) hc d_X_walk_31 (by decide) (fun hq => ?_) (fun hq => ?_)
  · have hf := ifp hq hf
    refine z_sub [0, 1, 2, 3] (L' := [(0, .ref (gAd g (0, 0, 0))), (1, .int x1), (2, .int x2), (3, .int x3)]) rfl ?_
    exact he0 (x3, σ) (Option.some.inj hf).symm
  · have hf := ifn hq hf
    refine z_aload_n hc d_X_walk_34 0 rfl ?_
    refine gf_X_50 hc d_X_walk_35  ?_
    refine z_iload_n hc d_X_walk_38 3 rfl ?_
    refine z_iconst (v := (iI 1)) hc d_X_walk_39 (by decide) ?_
    refine z_iadd hc d_X_walk_40 ?_
    obtain ⟨v7, σ8, h9, hf⟩ := bd2 hf
    refine cz_X_97 hc d_X_walk_41 (by decide) (by decide) h9 (Nat.le_of_ble_eq_true rfl) ?_
    refine z_iload_n hc d_X_walk_44 2 rfl ?_
    refine z_icmp_ne (tgt := 54) hc d_X_walk_45 (by decide) (fun hq => ?_) (fun hq => ?_)
    · have hf := ifn hq hf
      refine z_sub [0, 1, 2, 3] (L' := [(0, .ref (gAd g (0, 0, 0))), (1, .int x1), (2, .int x2), (3, .int x3)]) rfl ?_
      exact he0 (x3, σ8) (Option.some.inj hf).symm
    · have hf := ifp hq hf
      refine z_iinc (v := x3 + (iI 1)) (L' := [(3, .int (x3 + (iI 1))), (0, .ref (gAd g (0, 0, 0))), (1, .int x1), (2, .int x2)]) hc d_X_walk_48 3 rfl rfl (by decide) rfl ?_
      refine z_goto (tgt := 28) hc d_X_walk_51 (by decide) ?_
      refine z_sub [1, 2, 3, 0] (L' := [(0, .ref (gAd g (0, 0, 0))), (1, .int x1), (2, .int x2), (3, .int (x3 + (iI 1)))]) rfl ?_
      exact hi (x3 + (iI 1), σ8) (Option.some.inj hf).symm
def b_X_walk_57 (x2 : Int32) (x3 : Int32) (x4 : Int32) (σ : Sg) : Option ((Int32 × Sg) ⊕ (Int32 × Sg)) :=
  (if x4 ≤ (iI 0) then some (.inr (x4, σ)) else b2 (f_World_ownerAt 0 (x4 - (iI 1)) σ) (fun v13 σ14 => (if v13 = x2 then some (.inl (x4 + (iI (-1)), σ14)) else some (.inr (x4, σ14)))))
theorem sb_X_walk_57 {x : Cx} {g : Gv} {ρ : Option Value × Sg} (hc : Zc x g c_X_walk R_X 5 (some .int) 6) (x2 : Int32) (x3 : Int32) (x4 : Int32) (σ : Sg) (r : (Int32 × Sg) ⊕ (Int32 × Sg)) (hf : b_X_walk_57 x2 x3 x4 σ = some r) (hi : ∀ a', r = .inl a' → Z x g 5 ρ 57 [(0, .ref (gAd g (0, 0, 0))), (2, .int x2), (3, .int x3), (4, .int a'.1)] [] a'.2) (he0 : ∀ b, r = .inr b → Z x g 5 ρ 83 [(3, .int x3), (4, .int b.1)] [] b.2) : Z x g 5 ρ 57 [(0, .ref (gAd g (0, 0, 0))), (2, .int x2), (3, .int x3), (4, .int x4)] [] σ := by
  unfold b_X_walk_57 at hf
  refine z_iload hc d_X_walk_57 3 rfl ?_
  refine z_if_le (tgt := 83) hc d_X_walk_59 (by decide) (fun hq => ?_) (fun hq => ?_)
  · have hf := ifp hq hf
    refine z_sub [2, 3] (L' := [(3, .int x3), (4, .int x4)]) rfl ?_
    exact he0 (x4, σ) (Option.some.inj hf).symm
  · have hf := ifn hq hf
    refine z_aload_n hc d_X_walk_62 0 rfl ?_
    refine gf_X_50 hc d_X_walk_63  ?_
    refine z_iload hc d_X_walk_66 3 rfl ?_
    refine z_iconst (v := (iI 1)) hc d_X_walk_68 (by decide) ?_
    refine z_isub hc d_X_walk_69 ?_
    obtain ⟨v13, σ14, h15, hf⟩ := bd2 hf
    refine cz_X_97 hc d_X_walk_70 (by decide) (by decide) h15 (Nat.le_of_ble_eq_true rfl) ?_
    refine z_iload_n hc d_X_walk_73 1 rfl ?_
    refine z_icmp_ne (tgt := 83) hc d_X_walk_74 (by decide) (fun hq => ?_) (fun hq => ?_)
    · have hf := ifn hq hf
      refine z_sub [2, 3] (L' := [(3, .int x3), (4, .int x4)]) rfl ?_
      exact he0 (x4, σ14) (Option.some.inj hf).symm
    · have hf := ifp hq hf
      refine z_iinc (v := x4 + (iI (-1))) (L' := [(4, .int (x4 + (iI (-1)))), (0, .ref (gAd g (0, 0, 0))), (2, .int x2), (3, .int x3)]) hc d_X_walk_77 3 rfl rfl (by decide) rfl ?_
      refine z_goto (tgt := 57) hc d_X_walk_80 (by decide) ?_
      refine z_sub [1, 2, 3, 0] (L' := [(0, .ref (gAd g (0, 0, 0))), (2, .int x2), (3, .int x3), (4, .int (x4 + (iI (-1))))]) rfl ?_
      exact hi (x4 + (iI (-1)), σ14) (Option.some.inj hf).symm
def j_X_walk_54 (x1 : Int32) (x2 : Int32) (x3 : Int32) (σ : Sg) : Option (Int32 × Sg) :=
  Option.bind (lp (fun a => b_X_walk_57 x2 x3 a.1 a.2) FU (x1, σ)) (fun b19 => some ((x3 - b19.1) + (iI 1), b19.2))
theorem sj_X_walk_54 {x : Cx} {g : Gv} {ρ : Option Value × Sg} (hc : Zc x g c_X_walk R_X 5 (some .int) 6) (x1 : Int32) (x2 : Int32) (x3 : Int32) (σ : Sg) (r : Int32 × Sg) (hf : j_X_walk_54 x1 x2 x3 σ = some r) (hρ : ρ = (some (.int r.1), r.2)) : Z x g 5 ρ 54 [(0, .ref (gAd g (0, 0, 0))), (1, .int x1), (2, .int x2), (3, .int x3)] [] σ := by
  unfold j_X_walk_54 at hf
  refine z_iload_n hc d_X_walk_54 1 rfl ?_
  refine z_istore (L' := [(4, .int x1), (0, .ref (gAd g (0, 0, 0))), (1, .int x1), (2, .int x2), (3, .int x3)]) hc d_X_walk_55 (by decide) rfl ?_
  refine z_sub [1, 3, 4, 0] (L' := [(0, .ref (gAd g (0, 0, 0))), (2, .int x2), (3, .int x3), (4, .int x1)]) rfl ?_
  obtain ⟨⟨y17, σ18⟩, hl20, hf⟩ := bd hf
  try dsimp only at hf
  refine lp_walk (α := (Int32 × Sg)) (β := (Int32 × Sg)) (body := (fun a : (Int32 × Sg) => b_X_walk_57 x2 x3 a.1 a.2)) (In := (fun a : (Int32 × Sg) => Z x g 5 ρ 57 [(0, .ref (gAd g (0, 0, 0))), (2, .int x2), (3, .int x3), (4, .int a.1)] [] a.2)) (Out := (fun b => Z x g 5 ρ 83 [(3, .int x3), (4, .int b.1)] [] b.2)) (fun a r hb hi ho => sb_X_walk_57 hc x2 x3  a.1 a.2 r hb hi (fun b e => ho _ e)) FU (x1, σ) _ hl20 ?_
  dsimp only
  refine z_iload_n hc d_X_walk_83 0 rfl ?_
  refine z_iload hc d_X_walk_84 1 rfl ?_
  refine z_isub hc d_X_walk_86 ?_
  refine z_iconst (v := (iI 1)) hc d_X_walk_87 (by decide) ?_
  refine z_iadd hc d_X_walk_88 ?_
  exact z_iret hc d_X_walk_89 (rI hf hρ)
def f_X_walk (x1 : Int32) (σ : Sg) : Option (Int32 × Sg) :=
  b2 (f_X_within x1 (iI 0) (iI 39) σ) (fun v1 σ2 => (if v1 = (iI 0) then b2 (f_X_found (iI (-1000000001)) σ2) (fun v23 σ24 => some (v23, σ24)) else b2 (f_World_ownerAt 0 x1 σ2) (fun v4 σ5 => Option.bind (lp (fun a => b_X_walk_28 x1 v4 a.1 a.2) FU (x1, σ5)) (fun b21 => j_X_walk_54 x1 v4 b21.1  b21.2))))
theorem ok_X_walk (g : Gv) (x1 : Int32) (σ : Sg) (r : Int32 × Sg) (hf : f_X_walk x1 σ = some r) : Ok g y_X_walk c_X_walk 5 (some .int) 6 [.ref (gAd g (0, 0, 0)), .int x1] σ (some (.int r.1), r.2) := by
  unfold f_X_walk at hf
  refine Ok.of [(0, .ref (gAd g (0, 0, 0))), (1, .int x1)] (by decide) (Nat.le_of_ble_eq_true rfl) rfl ?_
  intro x hc
  have hc : Zc x g c_X_walk R_X 5 (some .int) 6 := hc
  obtain ⟨ρ, hρ⟩ : ∃ ρ : Option Value × Sg, ρ = (some (.int r.1), r.2) := ⟨_, rfl⟩
  rw [← hρ]
  refine z_iload_n hc d_X_walk_0 1 rfl ?_
  refine z_iconst (v := (iI 0)) hc d_X_walk_1 (by decide) ?_
  refine z_bipush (v := (iI 39)) hc d_X_walk_2 (by decide) ?_
  obtain ⟨v1, σ2, h3, hf⟩ := bd2 hf
  refine cz_X_85 hc d_X_walk_4 (by decide)  h3 (Nat.le_of_ble_eq_true rfl) ?_
  refine z_if_ne (tgt := 17) hc d_X_walk_7 (by decide) (fun hq => ?_) (fun hq => ?_)
  · have hf := ifn hq hf
    refine z_aload_n hc d_X_walk_17 0 rfl ?_
    refine gf_X_50 hc d_X_walk_18  ?_
    refine z_iload_n hc d_X_walk_21 1 rfl ?_
    obtain ⟨v4, σ5, h6, hf⟩ := bd2 hf
    refine cz_X_97 hc d_X_walk_22 (by decide) (by decide) h6 (Nat.le_of_ble_eq_true rfl) ?_
    refine z_istore_n (L' := [(2, .int v4), (0, .ref (gAd g (0, 0, 0))), (1, .int x1)]) hc d_X_walk_25 (by decide) rfl ?_
    refine z_iload_n hc d_X_walk_26 2 rfl ?_
    refine z_istore_n (L' := [(3, .int x1), (2, .int v4), (0, .ref (gAd g (0, 0, 0))), (1, .int x1)]) hc d_X_walk_27 (by decide) rfl ?_
    refine z_sub [2, 3, 1, 0] (L' := [(0, .ref (gAd g (0, 0, 0))), (1, .int x1), (2, .int v4), (3, .int x1)]) rfl ?_
    obtain ⟨⟨y11, σ12⟩, hl22, hf⟩ := bd hf
    try dsimp only at hf
    refine lp_walk (α := (Int32 × Sg)) (β := (Int32 × Sg)) (body := (fun a : (Int32 × Sg) => b_X_walk_28 x1 v4 a.1 a.2)) (In := (fun a : (Int32 × Sg) => Z x g 5 ρ 28 [(0, .ref (gAd g (0, 0, 0))), (1, .int x1), (2, .int v4), (3, .int a.1)] [] a.2)) (Out := (fun b => Z x g 5 ρ 54 [(0, .ref (gAd g (0, 0, 0))), (1, .int x1), (2, .int v4), (3, .int b.1)] [] b.2)) (fun a r hb hi ho => sb_X_walk_28 hc x1 v4  a.1 a.2 r hb hi (fun b e => ho _ e)) FU (x1, σ5) _ hl22 ?_
    dsimp only
    refine z_sub [0, 1, 2, 3] (L' := [(0, .ref (gAd g (0, 0, 0))), (1, .int x1), (2, .int v4), (3, .int y11)]) rfl ?_
    exact sj_X_walk_54 hc x1 v4 y11    σ12 _ hf hρ
  · have hf := ifp hq hf
    refine z_aload_n hc d_X_walk_10 0 rfl ?_
    refine z_ldc (v := (iI (-1000000001))) hc co_X_89 d_X_walk_11 ?_
    obtain ⟨v23, σ24, h25, hf⟩ := bd2 hf
    refine cz_X_90 hc d_X_walk_13 (by decide)  h25 (Nat.le_of_ble_eq_true rfl) ?_
    exact z_iret hc d_X_walk_16 (rI hf hρ)
theorem vl_X_113 : VL R_X 113 y_World_wetAhead c_World_wetAhead 2 (some .int) 1 := ⟨tb2 146 (by decide +kernel) (by decide +kernel), tb2 147 (by decide +kernel) (by decide +kernel), tb2 148 (by decide +kernel) (by decide +kernel), tb1 8 (by decide +kernel) (by decide +kernel), k_World_wetAhead, by decide, by decide, by decide +kernel, by decide⟩
theorem cz_X_113 {x : Cx} {g : Gv} {cc : ByteArray} {nL d pc : Nat} {ret : Option FieldType} {ρ : Option Value × Sg} {L : List (Nat × Value)} {st : List Value} {σ : Sg} (hc : Zc x g cc R_X nL ret d) (hd : decode cc pc = .ok (.invokevirtual 113, 3)) (hdd : 2 ≤ d) {w0 : Nat} {x1 : Int32} (hv0 : w0 < 3) {v : Int32} {σ1 : Sg} (hf : f_World_wetAhead w0 x1 σ = some (v, σ1)) (hst : (st.map (fun v => v.category)).sum ≤ 8) (k : Z x g nL ρ (pc + 3) L (.int v :: st) σ1) : Z x g nL ρ pc L (.int x1 :: .ref (gAd g (1, w0, 0)) :: st) σ := z_callV (ci := 9) (As := [.int x1]) hc hd vl_X_113 hdd (1, w0, 0) (dm_World hv0) rfl rfl (ok_World_wetAhead g w0 x1 hv0 σ (v, σ1) hf) rfl rfl hst rfl k
theorem vl_X_119 : VL R_X 119 y_World_setOut c_World_setOut 3 (some .int) 0 := ⟨tb2 153 (by decide +kernel) (by decide +kernel), tb2 154 (by decide +kernel) (by decide +kernel), tb2 155 (by decide +kernel) (by decide +kernel), tb1 8 (by decide +kernel) (by decide +kernel), k_World_setOut, by decide, by decide, by decide +kernel, by decide⟩
theorem cz_X_119 {x : Cx} {g : Gv} {cc : ByteArray} {nL d pc : Nat} {ret : Option FieldType} {ρ : Option Value × Sg} {L : List (Nat × Value)} {st : List Value} {σ : Sg} (hc : Zc x g cc R_X nL ret d) (hd : decode cc pc = .ok (.invokevirtual 119, 3)) (hdd : 2 ≤ d) {w0 : Nat} (hv0 : w0 < 3) {v : Int32} {σ1 : Sg} (hf : f_World_setOut w0 σ = some (v, σ1)) (hst : (st.map (fun v => v.category)).sum ≤ 8) (k : Z x g nL ρ (pc + 3) L (.int v :: st) σ1) : Z x g nL ρ pc L (.ref (gAd g (1, w0, 0)) :: st) σ := z_callV (ci := 9) (As := []) hc hd vl_X_119 hdd (1, w0, 0) (dm_World hv0) rfl rfl (ok_World_setOut g w0 hv0 σ (v, σ1) hf) rfl rfl hst rfl k
theorem vl_X_123 : VL R_X 123 y_World_allPiles c_World_allPiles 3 (some .int) 0 := ⟨tb2 157 (by decide +kernel) (by decide +kernel), tb2 158 (by decide +kernel) (by decide +kernel), tb2 159 (by decide +kernel) (by decide +kernel), tb1 8 (by decide +kernel) (by decide +kernel), k_World_allPiles, by decide, by decide, by decide +kernel, by decide⟩
theorem cz_X_123 {x : Cx} {g : Gv} {cc : ByteArray} {nL d pc : Nat} {ret : Option FieldType} {ρ : Option Value × Sg} {L : List (Nat × Value)} {st : List Value} {σ : Sg} (hc : Zc x g cc R_X nL ret d) (hd : decode cc pc = .ok (.invokevirtual 123, 3)) (hdd : 1 ≤ d) {w0 : Nat} (hv0 : w0 < 3) {v : Int32} {σ1 : Sg} (hf : f_World_allPiles w0 σ = some (v, σ1)) (hst : (st.map (fun v => v.category)).sum ≤ 8) (k : Z x g nL ρ (pc + 3) L (.int v :: st) σ1) : Z x g nL ρ pc L (.ref (gAd g (1, w0, 0)) :: st) σ := z_callV (ci := 9) (As := []) hc hd vl_X_123 hdd (1, w0, 0) (dm_World hv0) rfl rfl (ok_World_allPiles g w0 hv0 σ (v, σ1) hf) rfl rfl hst rfl k
def f_X_now (x1 : Int32) (σ : Sg) : Option (Int32 × Sg) :=
  (if x1 = (iI 0) then some (σ.1 1 0 0 1, σ) else (if x1 = (iI 1) then b2 (f_World_wetAhead 0 (iI 0) σ) (fun v1 σ2 => some (v1, σ2)) else (if x1 = (iI 2) then some (σ.1 1 0 0 2, σ) else (if x1 = (iI 3) then b2 (f_World_setOut 0 σ) (fun v4 σ5 => some (v4, σ5)) else (if x1 = (iI 4) then b2 (f_World_allPiles 0 σ) (fun v7 σ8 => some (v7, σ8)) else b2 (f_X_found (iI (-1000000001)) σ) (fun v10 σ11 => some (v10, σ11)))))))
theorem ok_X_now (g : Gv) (x1 : Int32) (σ : Sg) (r : Int32 × Sg) (hf : f_X_now x1 σ = some r) : Ok g y_X_now c_X_now 2 (some .int) 2 [.ref (gAd g (0, 0, 0)), .int x1] σ (some (.int r.1), r.2) := by
  unfold f_X_now at hf
  refine Ok.of [(0, .ref (gAd g (0, 0, 0))), (1, .int x1)] (by decide) (Nat.le_of_ble_eq_true rfl) rfl ?_
  intro x hc
  have hc : Zc x g c_X_now R_X 2 (some .int) 2 := hc
  obtain ⟨ρ, hρ⟩ : ∃ ρ : Option Value × Sg, ρ = (some (.int r.1), r.2) := ⟨_, rfl⟩
  rw [← hρ]
  refine z_iload_n hc d_X_now_0 1 rfl ?_
  by_cases hq0 : x1 = (iI 0)
  · have hf := ifp hq0 hf
    refine z_tab (tgt := 36) (off := 35) (iI 0) hc d_X_now_1 hq0 (by decide) (by decide) (by decide) (by decide) ?_
    refine z_aload_n hc d_X_now_36 0 rfl ?_
    refine gf_X_50 hc d_X_now_37  ?_
    refine gf_X_109 hc d_X_now_40 (by decide) ?_
    exact z_iret hc d_X_now_43 (rI hf hρ)
  have hf := ifn hq0 hf
  by_cases hq1 : x1 = (iI 1)
  · have hf := ifp hq1 hf
    refine z_tab (tgt := 44) (off := 43) (iI 1) hc d_X_now_1 hq1 (by decide) (by decide) (by decide) (by decide) ?_
    refine z_aload_n hc d_X_now_44 0 rfl ?_
    refine gf_X_50 hc d_X_now_45  ?_
    refine z_iconst (v := (iI 0)) hc d_X_now_48 (by decide) ?_
    obtain ⟨v1, σ2, h3, hf⟩ := bd2 hf
    refine cz_X_113 hc d_X_now_49 (by decide) (by decide) h3 (Nat.le_of_ble_eq_true rfl) ?_
    exact z_iret hc d_X_now_52 (rI hf hρ)
  have hf := ifn hq1 hf
  by_cases hq2 : x1 = (iI 2)
  · have hf := ifp hq2 hf
    refine z_tab (tgt := 53) (off := 52) (iI 2) hc d_X_now_1 hq2 (by decide) (by decide) (by decide) (by decide) ?_
    refine z_aload_n hc d_X_now_53 0 rfl ?_
    refine gf_X_50 hc d_X_now_54  ?_
    refine gf_X_116 hc d_X_now_57 (by decide) ?_
    exact z_iret hc d_X_now_60 (rI hf hρ)
  have hf := ifn hq2 hf
  by_cases hq3 : x1 = (iI 3)
  · have hf := ifp hq3 hf
    refine z_tab (tgt := 61) (off := 60) (iI 3) hc d_X_now_1 hq3 (by decide) (by decide) (by decide) (by decide) ?_
    refine z_aload_n hc d_X_now_61 0 rfl ?_
    refine gf_X_50 hc d_X_now_62  ?_
    obtain ⟨v4, σ5, h6, hf⟩ := bd2 hf
    refine cz_X_119 hc d_X_now_65 (by decide) (by decide) h6 (Nat.le_of_ble_eq_true rfl) ?_
    exact z_iret hc d_X_now_68 (rI hf hρ)
  have hf := ifn hq3 hf
  by_cases hq4 : x1 = (iI 4)
  · have hf := ifp hq4 hf
    refine z_tab (tgt := 69) (off := 68) (iI 4) hc d_X_now_1 hq4 (by decide) (by decide) (by decide) (by decide) ?_
    refine z_aload_n hc d_X_now_69 0 rfl ?_
    refine gf_X_50 hc d_X_now_70  ?_
    obtain ⟨v7, σ8, h9, hf⟩ := bd2 hf
    refine cz_X_123 hc d_X_now_73 (by decide) (by decide) h9 (Nat.le_of_ble_eq_true rfl) ?_
    exact z_iret hc d_X_now_76 (rI hf hρ)
  have hf := ifn hq4 hf
  refine z_tabD (tgt := 77) 5 (by decide) hc d_X_now_1 (fun j hj => by match j, hj with | 0, _ => exact hq0 | 1, _ => exact hq1 | 2, _ => exact hq2 | 3, _ => exact hq3 | 4, _ => exact hq4) (by decide) ?_
  refine z_aload_n hc d_X_now_77 0 rfl ?_
  refine z_ldc (v := (iI (-1000000001))) hc co_X_89 d_X_now_78 ?_
  obtain ⟨v10, σ11, h12, hf⟩ := bd2 hf
  refine cz_X_90 hc d_X_now_80 (by decide)  h12 (Nat.le_of_ble_eq_true rfl) ?_
  exact z_iret hc d_X_now_83 (rI hf hρ)
theorem vl_X_126 : VL R_X 126 y_World_addRug c_World_addRug 3 (some .int) 2 := ⟨tb2 165 (by decide +kernel) (by decide +kernel), tb2 166 (by decide +kernel) (by decide +kernel), tb2 167 (by decide +kernel) (by decide +kernel), tb1 8 (by decide +kernel) (by decide +kernel), k_World_addRug, by decide, by decide, by decide +kernel, by decide⟩
theorem cz_X_126 {x : Cx} {g : Gv} {cc : ByteArray} {nL d pc : Nat} {ret : Option FieldType} {ρ : Option Value × Sg} {L : List (Nat × Value)} {st : List Value} {σ : Sg} (hc : Zc x g cc R_X nL ret d) (hd : decode cc pc = .ok (.invokevirtual 126, 3)) (hdd : 3 ≤ d) {w0 : Nat} {w1 : Nat} {x2 : Int32} (hv0 : w0 < 3) (hv1 : w1 < 6) {v : Int32} {σ1 : Sg} (hf : f_World_addRug w0 w1 x2 σ = some (v, σ1)) (hst : (st.map (fun v => v.category)).sum ≤ 8) (k : Z x g nL ρ (pc + 3) L (.int v :: st) σ1) : Z x g nL ρ pc L (.int x2 :: .ref (gAd g (5, w1, 0)) :: .ref (gAd g (1, w0, 0)) :: st) σ := z_callV (ci := 9) (As := [.ref (gAd g (5, w1, 0)), .int x2]) hc hd vl_X_126 hdd (1, w0, 0) (dm_World hv0) rfl rfl (ok_World_addRug g w0 w1 x2 hv0 hv1 σ (v, σ1) hf) rfl rfl hst rfl k
def j_X_carpet_18 (σ : Sg) : Option (Int32 × Sg) :=
  b2 (f_X_found (iI (-1000000001)) σ) (fun v4 σ5 => some (v4, σ5))
theorem sj_X_carpet_18 {x : Cx} {g : Gv} {ρ : Option Value × Sg} (hc : Zc x g c_X_carpet R_X 4 (some .int) 3) (σ : Sg) (r : Int32 × Sg) (hf : j_X_carpet_18 σ = some r) (hρ : ρ = (some (.int r.1), r.2)) : Z x g 4 ρ 18 [(0, .ref (gAd g (0, 0, 0)))] [] σ := by
  unfold j_X_carpet_18 at hf
  refine z_aload_n hc d_X_carpet_18 0 rfl ?_
  refine z_ldc (v := (iI (-1000000001))) hc co_X_89 d_X_carpet_19 ?_
  obtain ⟨v4, σ5, h6, hf⟩ := bd2 hf
  refine cz_X_90 hc d_X_carpet_21 (by decide)  h6 (Nat.le_of_ble_eq_true rfl) ?_
  exact z_iret hc d_X_carpet_24 (rI hf hρ)
def f_X_carpet (x1 : Int32) (x2 : Int32) (σ : Sg) : Option (Int32 × Sg) :=
  b2 (f_X_within x1 (iI 0) (iI 5) σ) (fun v1 σ2 => (if v1 = (iI 0) then j_X_carpet_18   σ2 else b2 (f_X_within x2 (iI 0) (iI 3) σ2) (fun v7 σ8 => (if v7 = (iI 0) then j_X_carpet_18   σ8 else Option.bind (rd x1 6) (fun j10 => b2 (f_World_addRug 0 j10 x2 σ8) (fun v12 σ13 => (if (iI 0) ≤ v12 then some (v12, σ13) else b2 (f_X_found (iI (-1000000002)) σ13) (fun v15 σ16 => some (v15, σ16)))))))))
theorem ok_X_carpet (g : Gv) (x1 : Int32) (x2 : Int32) (σ : Sg) (r : Int32 × Sg) (hf : f_X_carpet x1 x2 σ = some r) : Ok g y_X_carpet c_X_carpet 4 (some .int) 3 [.ref (gAd g (0, 0, 0)), .int x1, .int x2] σ (some (.int r.1), r.2) := by
  unfold f_X_carpet at hf
  refine Ok.of [(0, .ref (gAd g (0, 0, 0))), (1, .int x1), (2, .int x2)] (by decide) (Nat.le_of_ble_eq_true rfl) rfl ?_
  intro x hc
  have hc : Zc x g c_X_carpet R_X 4 (some .int) 3 := hc
  obtain ⟨ρ, hρ⟩ : ∃ ρ : Option Value × Sg, ρ = (some (.int r.1), r.2) := ⟨_, rfl⟩
  rw [← hρ]
  refine z_iload_n hc d_X_carpet_0 1 rfl ?_
  refine z_iconst (v := (iI 0)) hc d_X_carpet_1 (by decide) ?_
  refine z_iconst (v := (iI 5)) hc d_X_carpet_2 (by decide) ?_
  obtain ⟨v1, σ2, h3, hf⟩ := bd2 hf
  refine cz_X_85 hc d_X_carpet_3 (by decide)  h3 (Nat.le_of_ble_eq_true rfl) ?_
  refine z_if_eq (tgt := 18) hc d_X_carpet_6 (by decide) (fun hq => ?_) (fun hq => ?_)
  · have hf := ifp hq hf
    refine z_sub [0] (L' := [(0, .ref (gAd g (0, 0, 0)))]) rfl ?_
    exact sj_X_carpet_18 hc     σ2 _ hf hρ
  · have hf := ifn hq hf
    refine z_iload_n hc d_X_carpet_9 2 rfl ?_
    refine z_iconst (v := (iI 0)) hc d_X_carpet_10 (by decide) ?_
    refine z_iconst (v := (iI 3)) hc d_X_carpet_11 (by decide) ?_
    obtain ⟨v7, σ8, h9, hf⟩ := bd2 hf
    refine cz_X_85 hc d_X_carpet_12 (by decide)  h9 (Nat.le_of_ble_eq_true rfl) ?_
    refine z_if_ne (tgt := 25) hc d_X_carpet_15 (by decide) (fun hq => ?_) (fun hq => ?_)
    · have hf := ifn hq hf
      refine z_aload_n hc d_X_carpet_25 0 rfl ?_
      refine gf_X_50 hc d_X_carpet_26  ?_
      refine z_aload_n hc d_X_carpet_29 0 rfl ?_
      refine gf_X_41 hc d_X_carpet_30  ?_
      refine z_iload_n hc d_X_carpet_33 1 rfl ?_
      obtain ⟨j10, hj11, hf⟩ := bd hf
      refine ald_kinds hc d_X_carpet_34  hj11 ?_
      refine z_iload_n hc d_X_carpet_35 2 rfl ?_
      obtain ⟨v12, σ13, h14, hf⟩ := bd2 hf
      refine cz_X_126 hc d_X_carpet_36 (by decide) (by decide) (rd_lt hj11) h14 (Nat.le_of_ble_eq_true rfl) ?_
      refine z_istore_n (L' := [(3, .int v12), (0, .ref (gAd g (0, 0, 0))), (1, .int x1), (2, .int x2)]) hc d_X_carpet_39 (by decide) rfl ?_
      refine z_iload_n hc d_X_carpet_40 0 rfl ?_
      refine z_if_ge (tgt := 53) hc d_X_carpet_41 (by decide) (fun hq => ?_) (fun hq => ?_)
      · have hf := ifp hq hf
        refine z_iload_n hc d_X_carpet_53 0 rfl ?_
        exact z_iret hc d_X_carpet_54 (rI hf hρ)
      · have hf := ifn hq hf
        refine z_aload_n hc d_X_carpet_44 1 rfl ?_
        refine z_ldc (v := (iI (-1000000002))) hc co_X_130 d_X_carpet_45 ?_
        obtain ⟨v15, σ16, h17, hf⟩ := bd2 hf
        refine cz_X_90 hc d_X_carpet_47 (by decide)  h17 (Nat.le_of_ble_eq_true rfl) ?_
        refine z_goto (tgt := 54) hc d_X_carpet_50 (by decide) ?_
        exact z_iret hc d_X_carpet_54 (rI hf hρ)
    · have hf := ifp hq hf
      refine z_sub [0] (L' := [(0, .ref (gAd g (0, 0, 0)))]) rfl ?_
      exact sj_X_carpet_18 hc     σ8 _ hf hρ
def f_X_isRug (x1 : Int32) (σ : Sg) : Option (Int32 × Sg) :=
  b2 (f_X_within x1 (iI 0) ((σ.1 1 0 0 0) - (iI 1)) σ) (fun v1 σ2 => Option.bind (bo v1) (fun r4 => some (r4, σ2)))
theorem ok_X_isRug (g : Gv) (x1 : Int32) (σ : Sg) (r : Int32 × Sg) (hf : f_X_isRug x1 σ = some r) : Ok g y_X_isRug c_X_isRug 2 (some .boolean) 1 [.ref (gAd g (0, 0, 0)), .int x1] σ (some (.int r.1), r.2) := by
  unfold f_X_isRug at hf
  refine Ok.of [(0, .ref (gAd g (0, 0, 0))), (1, .int x1)] (by decide) (Nat.le_of_ble_eq_true rfl) rfl ?_
  intro x hc
  have hc : Zc x g c_X_isRug R_X 2 (some .boolean) 1 := hc
  obtain ⟨ρ, hρ⟩ : ∃ ρ : Option Value × Sg, ρ = (some (.int r.1), r.2) := ⟨_, rfl⟩
  rw [← hρ]
  refine z_iload_n hc d_X_isRug_0 1 rfl ?_
  refine z_iconst (v := (iI 0)) hc d_X_isRug_1 (by decide) ?_
  refine z_aload_n hc d_X_isRug_2 0 rfl ?_
  refine gf_X_50 hc d_X_isRug_3  ?_
  refine gf_X_235 hc d_X_isRug_6 (by decide) ?_
  refine z_iconst (v := (iI 1)) hc d_X_isRug_9 (by decide) ?_
  refine z_isub hc d_X_isRug_10 ?_
  obtain ⟨v1, σ2, h3, hf⟩ := bd2 hf
  refine cz_X_85 hc d_X_isRug_11 (by decide)  h3 (Nat.le_of_ble_eq_true rfl) ?_
  obtain ⟨r4, hb1, hf⟩ := bd hf
  exact z_bret hc d_X_isRug_14 hb1 hf hρ
theorem vl_X_131 : VL R_X 131 y_X_isRug c_X_isRug 2 (some .boolean) 1 := ⟨tb2 182 (by decide +kernel) (by decide +kernel), tb2 184 (by decide +kernel) (by decide +kernel), tbp 2 (by decide +kernel), tb1 1 (by decide +kernel) (by decide +kernel), k_X_isRug, by decide, by decide, by decide +kernel, by decide⟩
theorem cz_X_131 {x : Cx} {g : Gv} {cc : ByteArray} {nL d pc : Nat} {ret : Option FieldType} {ρ : Option Value × Sg} {L : List (Nat × Value)} {st : List Value} {σ : Sg} (hc : Zc x g cc R_X nL ret d) (hd : decode cc pc = .ok (.invokevirtual 131, 3)) (hdd : 2 ≤ d) {x1 : Int32} {v : Int32} {σ1 : Sg} (hf : f_X_isRug x1 σ = some (v, σ1)) (hst : (st.map (fun v => v.category)).sum ≤ 8) (k : Z x g nL ρ (pc + 3) L (.int v :: st) σ1) : Z x g nL ρ pc L (.int x1 :: .ref (gAd g (0, 0, 0)) :: st) σ := z_callV (ci := 10) (As := [.int x1]) hc hd vl_X_131 hdd (0, 0, 0) (dm_X) rfl rfl (ok_X_isRug g x1 σ (v, σ1) hf) rfl rfl hst rfl k
theorem vl_X_146 : VL R_X 146 y_Rug_valueOf c_Rug_valueOf 2 (some .int) 1 := ⟨tb2 186 (by decide +kernel) (by decide +kernel), tb2 187 (by decide +kernel) (by decide +kernel), tb2 188 (by decide +kernel) (by decide +kernel), tb1 9 (by decide +kernel) (by decide +kernel), k_Rug_valueOf, by decide, by decide, by decide +kernel, by decide⟩
theorem cz_X_146 {x : Cx} {g : Gv} {cc : ByteArray} {nL d pc : Nat} {ret : Option FieldType} {ρ : Option Value × Sg} {L : List (Nat × Value)} {st : List Value} {σ : Sg} (hc : Zc x g cc R_X nL ret d) (hd : decode cc pc = .ok (.invokevirtual 146, 3)) (hdd : 1 ≤ d) {w0 : Nat} {c0 : Nat} {x1 : Int32} (hv0 : okR w0 c0) {v : Int32} {σ1 : Sg} (hf : f_Rug_valueOf w0 c0 x1 σ = some (v, σ1)) (hst : (st.map (fun v => v.category)).sum ≤ 8) (k : Z x g nL ρ (pc + 3) L (.int v :: st) σ1) : Z x g nL ρ pc L (.int x1 :: .ref (gAd g (2, w0, c0)) :: st) σ := z_callV (ci := 2) (As := [.int x1]) hc hd vl_X_146 hdd (2, w0, c0) (dm_Rug hv0) rfl rfl (ok_Rug_valueOf g w0 c0 x1 hv0 σ (v, σ1) hf) rfl rfl hst rfl k
theorem ul_X_152_0 : UL R_X 152 R_Kind y_Kind_reaches y_Kind_reaches c_Kind_reaches 2 (some .int) 1 := ⟨tb2 190 (by decide +kernel) (by decide +kernel), tb2 71 (by decide +kernel) (by decide +kernel), tb2 69 (by decide +kernel) (by decide +kernel), tb2 70 (by decide +kernel) (by decide +kernel), tb2 69 (by decide +kernel) (by decide +kernel), tb1 2 (by decide +kernel) (by decide +kernel), k_Kind_reaches, ⟨_, _, _, k_Kind_reaches⟩, by decide, by decide, by decide +kernel, by decide⟩
theorem ul_X_152_1 : UL R_X 152 R_Runner y_Kind_reaches y_Runner_reaches c_Runner_reaches 2 (some .int) 1 := ⟨tb2 190 (by decide +kernel) (by decide +kernel), tb2 71 (by decide +kernel) (by decide +kernel), tb2 69 (by decide +kernel) (by decide +kernel), tb2 75 (by decide +kernel) (by decide +kernel), tb2 76 (by decide +kernel) (by decide +kernel), tb1 3 (by decide +kernel) (by decide +kernel), k_Runner_reaches, ⟨_, _, _, k_Kind_reaches⟩, by decide, by decide, by decide +kernel, by decide⟩
theorem ul_X_152_2 : UL R_X 152 R_Velvet y_Kind_reaches y_Kind_reaches c_Kind_reaches 2 (some .int) 1 := ⟨tb2 190 (by decide +kernel) (by decide +kernel), tb2 71 (by decide +kernel) (by decide +kernel), tb2 69 (by decide +kernel) (by decide +kernel), tb2 92 (by decide +kernel) (by decide +kernel), tb2 69 (by decide +kernel) (by decide +kernel), tb1 2 (by decide +kernel) (by decide +kernel), k_Kind_reaches, ⟨_, _, _, k_Kind_reaches⟩, by decide, by decide, by decide +kernel, by decide⟩
theorem ul_X_152_3 : UL R_X 152 R_Mat y_Kind_reaches y_Mat_reaches c_Mat_reaches 2 (some .int) 1 := ⟨tb2 190 (by decide +kernel) (by decide +kernel), tb2 71 (by decide +kernel) (by decide +kernel), tb2 69 (by decide +kernel) (by decide +kernel), tb2 72 (by decide +kernel) (by decide +kernel), tb2 73 (by decide +kernel) (by decide +kernel), tb1 5 (by decide +kernel) (by decide +kernel), k_Mat_reaches, ⟨_, _, _, k_Kind_reaches⟩, by decide, by decide, by decide +kernel, by decide⟩
theorem ul_X_152_4 : UL R_X 152 R_Stair y_Kind_reaches y_Stair_reaches c_Stair_reaches 2 (some .int) 1 := ⟨tb2 190 (by decide +kernel) (by decide +kernel), tb2 71 (by decide +kernel) (by decide +kernel), tb2 69 (by decide +kernel) (by decide +kernel), tb2 87 (by decide +kernel) (by decide +kernel), tb2 88 (by decide +kernel) (by decide +kernel), tb1 6 (by decide +kernel) (by decide +kernel), k_Stair_reaches, ⟨_, _, _, k_Kind_reaches⟩, by decide, by decide, by decide +kernel, by decide⟩
theorem ul_X_152_5 : UL R_X 152 R_Shag y_Kind_reaches y_Shag_reaches c_Shag_reaches 3 (some .int) 1 := ⟨tb2 190 (by decide +kernel) (by decide +kernel), tb2 71 (by decide +kernel) (by decide +kernel), tb2 69 (by decide +kernel) (by decide +kernel), tb2 78 (by decide +kernel) (by decide +kernel), tb2 79 (by decide +kernel) (by decide +kernel), tb1 7 (by decide +kernel) (by decide +kernel), k_Shag_reaches, ⟨_, _, _, k_Kind_reaches⟩, by decide, by decide, by decide +kernel, by decide⟩
theorem cz_X_152 {x : Cx} {g : Gv} {cc : ByteArray} {nL d pc : Nat} {ret : Option FieldType} {ρ : Option Value × Sg} {L : List (Nat × Value)} {st : List Value} {σ : Sg} (hc : Zc x g cc R_X nL ret d) (hd : decode cc pc = .ok (.invokevirtual 152, 3)) (hdd : 2 ≤ d) {w0 : Nat} {w1 : Nat} {c1 : Nat} (hv0 : w0 < 6) (hv1 : okR w1 c1) {v : Int32} {σ1 : Sg} (hf : v_reaches w0 w1 c1 σ = some (v, σ1)) (hst : (st.map (fun v => v.category)).sum ≤ 8) (k : Z x g nL ρ (pc + 3) L (.int v :: st) σ1) : Z x g nL ρ pc L (.ref (gAd g (2, w1, c1)) :: .ref (gAd g (5, w0, 0)) :: st) σ := by
  match w0, hv0 with
  | 0, _ => exact z_callU (ci := 0) (As := [.ref (gAd g (2, w1, c1))]) hc hd ul_X_152_0 (Nat.le_trans (by decide) hdd) (5, 0, 0) (dm_Kind (by decide)) rfl rfl (ok_Kind_reaches g 0 w1 c1 (by decide) hv1 σ (v, σ1) hf) rfl rfl hst rfl k
  | 1, _ => exact z_callU (ci := 3) (As := [.ref (gAd g (2, w1, c1))]) hc hd ul_X_152_1 (Nat.le_trans (by decide) hdd) (5, 1, 0) (dm_Kind (by decide)) rfl rfl (ok_Runner_reaches g 1 w1 c1 (by decide) hv1 σ (v, σ1) hf) rfl rfl hst rfl k
  | 2, _ => exact z_callU (ci := 8) (As := [.ref (gAd g (2, w1, c1))]) hc hd ul_X_152_2 (Nat.le_trans (by decide) hdd) (5, 2, 0) (dm_Kind (by decide)) rfl rfl (ok_Kind_reaches g 2 w1 c1 (by decide) hv1 σ (v, σ1) hf) rfl rfl hst rfl k
  | 3, _ => exact z_callU (ci := 1) (As := [.ref (gAd g (2, w1, c1))]) hc hd ul_X_152_3 (Nat.le_trans (by decide) hdd) (5, 3, 0) (dm_Kind (by decide)) rfl rfl (ok_Mat_reaches g 3 w1 c1 (by decide) hv1 σ (v, σ1) hf) rfl rfl hst rfl k
  | 4, _ => exact z_callU (ci := 6) (As := [.ref (gAd g (2, w1, c1))]) hc hd ul_X_152_4 (Nat.le_trans (by decide) hdd) (5, 4, 0) (dm_Kind (by decide)) rfl rfl (ok_Stair_reaches g 4 w1 c1 (by decide) hv1 σ (v, σ1) hf) rfl rfl hst rfl k
  | 5, _ => exact z_callU (ci := 4) (As := [.ref (gAd g (2, w1, c1))]) hc hd ul_X_152_5 (Nat.le_trans (by decide) hdd) (5, 5, 0) (dm_Kind (by decide)) rfl rfl (ok_Shag_reaches g 5 w1 c1 (by decide) hv1 σ (v, σ1) hf) rfl rfl hst rfl k
theorem ul_X_156_0 : UL R_X 156 R_Kind y_Kind_wears y_Kind_wears c_Kind_wears 3 (some .int) 2 := ⟨tb2 191 (by decide +kernel) (by decide +kernel), tb2 194 (by decide +kernel) (by decide +kernel), tb2 192 (by decide +kernel) (by decide +kernel), tb2 193 (by decide +kernel) (by decide +kernel), tb2 192 (by decide +kernel) (by decide +kernel), tb1 2 (by decide +kernel) (by decide +kernel), k_Kind_wears, ⟨_, _, _, k_Kind_wears⟩, by decide, by decide, by decide +kernel, by decide⟩
theorem ul_X_156_1 : UL R_X 156 R_Runner y_Kind_wears y_Runner_wears c_Runner_wears 3 (some .int) 2 := ⟨tb2 191 (by decide +kernel) (by decide +kernel), tb2 194 (by decide +kernel) (by decide +kernel), tb2 192 (by decide +kernel) (by decide +kernel), tb2 198 (by decide +kernel) (by decide +kernel), tb2 199 (by decide +kernel) (by decide +kernel), tb1 3 (by decide +kernel) (by decide +kernel), k_Runner_wears, ⟨_, _, _, k_Kind_wears⟩, by decide, by decide, by decide +kernel, by decide⟩
theorem ul_X_156_2 : UL R_X 156 R_Velvet y_Kind_wears y_Velvet_wears c_Velvet_wears 3 (some .int) 2 := ⟨tb2 191 (by decide +kernel) (by decide +kernel), tb2 194 (by decide +kernel) (by decide +kernel), tb2 192 (by decide +kernel) (by decide +kernel), tb2 213 (by decide +kernel) (by decide +kernel), tb2 206 (by decide +kernel) (by decide +kernel), tb1 4 (by decide +kernel) (by decide +kernel), k_Velvet_wears, ⟨_, _, _, k_Kind_wears⟩, by decide, by decide, by decide +kernel, by decide⟩
theorem ul_X_156_3 : UL R_X 156 R_Mat y_Kind_wears y_Mat_wears c_Mat_wears 3 (some .int) 2 := ⟨tb2 191 (by decide +kernel) (by decide +kernel), tb2 194 (by decide +kernel) (by decide +kernel), tb2 192 (by decide +kernel) (by decide +kernel), tb2 195 (by decide +kernel) (by decide +kernel), tb2 196 (by decide +kernel) (by decide +kernel), tb1 5 (by decide +kernel) (by decide +kernel), k_Mat_wears, ⟨_, _, _, k_Kind_wears⟩, by decide, by decide, by decide +kernel, by decide⟩
theorem ul_X_156_4 : UL R_X 156 R_Stair y_Kind_wears y_Stair_wears c_Stair_wears 3 (some .int) 2 := ⟨tb2 191 (by decide +kernel) (by decide +kernel), tb2 194 (by decide +kernel) (by decide +kernel), tb2 192 (by decide +kernel) (by decide +kernel), tb2 209 (by decide +kernel) (by decide +kernel), tb2 210 (by decide +kernel) (by decide +kernel), tb1 6 (by decide +kernel) (by decide +kernel), k_Stair_wears, ⟨_, _, _, k_Kind_wears⟩, by decide, by decide, by decide +kernel, by decide⟩
theorem ul_X_156_5 : UL R_X 156 R_Shag y_Kind_wears y_Shag_wears c_Shag_wears 3 (some .int) 2 := ⟨tb2 191 (by decide +kernel) (by decide +kernel), tb2 194 (by decide +kernel) (by decide +kernel), tb2 192 (by decide +kernel) (by decide +kernel), tb2 202 (by decide +kernel) (by decide +kernel), tb2 203 (by decide +kernel) (by decide +kernel), tb1 7 (by decide +kernel) (by decide +kernel), k_Shag_wears, ⟨_, _, _, k_Kind_wears⟩, by decide, by decide, by decide +kernel, by decide⟩
theorem cz_X_156 {x : Cx} {g : Gv} {cc : ByteArray} {nL d pc : Nat} {ret : Option FieldType} {ρ : Option Value × Sg} {L : List (Nat × Value)} {st : List Value} {σ : Sg} (hc : Zc x g cc R_X nL ret d) (hd : decode cc pc = .ok (.invokevirtual 156, 3)) (hdd : 3 ≤ d) {w0 : Nat} {w1 : Nat} {c1 : Nat} {x2 : Int32} (hv0 : w0 < 6) (hv1 : okR w1 c1) {v : Int32} {σ1 : Sg} (hf : v_wears w0 w1 c1 x2 σ = some (v, σ1)) (hst : (st.map (fun v => v.category)).sum ≤ 8) (k : Z x g nL ρ (pc + 3) L (.int v :: st) σ1) : Z x g nL ρ pc L (.int x2 :: .ref (gAd g (2, w1, c1)) :: .ref (gAd g (5, w0, 0)) :: st) σ := by
  match w0, hv0 with
  | 0, _ => exact z_callU (ci := 0) (As := [.ref (gAd g (2, w1, c1)), .int x2]) hc hd ul_X_156_0 (Nat.le_trans (by decide) hdd) (5, 0, 0) (dm_Kind (by decide)) rfl rfl (ok_Kind_wears g 0 w1 c1 x2 (by decide) hv1 σ (v, σ1) hf) rfl rfl hst rfl k
  | 1, _ => exact z_callU (ci := 3) (As := [.ref (gAd g (2, w1, c1)), .int x2]) hc hd ul_X_156_1 (Nat.le_trans (by decide) hdd) (5, 1, 0) (dm_Kind (by decide)) rfl rfl (ok_Runner_wears g 1 w1 c1 x2 (by decide) hv1 σ (v, σ1) hf) rfl rfl hst rfl k
  | 2, _ => exact z_callU (ci := 8) (As := [.ref (gAd g (2, w1, c1)), .int x2]) hc hd ul_X_156_2 (Nat.le_trans (by decide) hdd) (5, 2, 0) (dm_Kind (by decide)) rfl rfl (ok_Velvet_wears g 2 w1 c1 x2 (by decide) hv1 σ (v, σ1) hf) rfl rfl hst rfl k
  | 3, _ => exact z_callU (ci := 1) (As := [.ref (gAd g (2, w1, c1)), .int x2]) hc hd ul_X_156_3 (Nat.le_trans (by decide) hdd) (5, 3, 0) (dm_Kind (by decide)) rfl rfl (ok_Mat_wears g 3 w1 c1 x2 (by decide) hv1 σ (v, σ1) hf) rfl rfl hst rfl k
  | 4, _ => exact z_callU (ci := 6) (As := [.ref (gAd g (2, w1, c1)), .int x2]) hc hd ul_X_156_4 (Nat.le_trans (by decide) hdd) (5, 4, 0) (dm_Kind (by decide)) rfl rfl (ok_Stair_wears g 4 w1 c1 x2 (by decide) hv1 σ (v, σ1) hf) rfl rfl hst rfl k
  | 5, _ => exact z_callU (ci := 4) (As := [.ref (gAd g (2, w1, c1)), .int x2]) hc hd ul_X_156_5 (Nat.le_trans (by decide) hdd) (5, 5, 0) (dm_Kind (by decide)) rfl rfl (ok_Shag_wears g 5 w1 c1 x2 (by decide) hv1 σ (v, σ1) hf) rfl rfl hst rfl k
theorem ul_X_160_0 : UL R_X 160 R_Kind y_Kind_breeds y_Kind_breeds c_Kind_breeds 2 (some .int) 1 := ⟨tb2 215 (by decide +kernel) (by decide +kernel), tb2 218 (by decide +kernel) (by decide +kernel), tb2 216 (by decide +kernel) (by decide +kernel), tb2 217 (by decide +kernel) (by decide +kernel), tb2 216 (by decide +kernel) (by decide +kernel), tb1 2 (by decide +kernel) (by decide +kernel), k_Kind_breeds, ⟨_, _, _, k_Kind_breeds⟩, by decide, by decide, by decide +kernel, by decide⟩
theorem ul_X_160_1 : UL R_X 160 R_Runner y_Kind_breeds y_Kind_breeds c_Kind_breeds 2 (some .int) 1 := ⟨tb2 215 (by decide +kernel) (by decide +kernel), tb2 218 (by decide +kernel) (by decide +kernel), tb2 216 (by decide +kernel) (by decide +kernel), tb2 222 (by decide +kernel) (by decide +kernel), tb2 216 (by decide +kernel) (by decide +kernel), tb1 2 (by decide +kernel) (by decide +kernel), k_Kind_breeds, ⟨_, _, _, k_Kind_breeds⟩, by decide, by decide, by decide +kernel, by decide⟩
theorem ul_X_160_2 : UL R_X 160 R_Velvet y_Kind_breeds y_Velvet_breeds c_Velvet_breeds 2 (some .int) 1 := ⟨tb2 215 (by decide +kernel) (by decide +kernel), tb2 218 (by decide +kernel) (by decide +kernel), tb2 216 (by decide +kernel) (by decide +kernel), tb2 231 (by decide +kernel) (by decide +kernel), tb2 227 (by decide +kernel) (by decide +kernel), tb1 4 (by decide +kernel) (by decide +kernel), k_Velvet_breeds, ⟨_, _, _, k_Kind_breeds⟩, by decide, by decide, by decide +kernel, by decide⟩
theorem ul_X_160_3 : UL R_X 160 R_Mat y_Kind_breeds y_Mat_breeds c_Mat_breeds 2 (some .int) 1 := ⟨tb2 215 (by decide +kernel) (by decide +kernel), tb2 218 (by decide +kernel) (by decide +kernel), tb2 216 (by decide +kernel) (by decide +kernel), tb2 219 (by decide +kernel) (by decide +kernel), tb2 220 (by decide +kernel) (by decide +kernel), tb1 5 (by decide +kernel) (by decide +kernel), k_Mat_breeds, ⟨_, _, _, k_Kind_breeds⟩, by decide, by decide, by decide +kernel, by decide⟩
theorem ul_X_160_4 : UL R_X 160 R_Stair y_Kind_breeds y_Kind_breeds c_Kind_breeds 2 (some .int) 1 := ⟨tb2 215 (by decide +kernel) (by decide +kernel), tb2 218 (by decide +kernel) (by decide +kernel), tb2 216 (by decide +kernel) (by decide +kernel), tb2 230 (by decide +kernel) (by decide +kernel), tb2 216 (by decide +kernel) (by decide +kernel), tb1 2 (by decide +kernel) (by decide +kernel), k_Kind_breeds, ⟨_, _, _, k_Kind_breeds⟩, by decide, by decide, by decide +kernel, by decide⟩
theorem ul_X_160_5 : UL R_X 160 R_Shag y_Kind_breeds y_Shag_breeds c_Shag_breeds 2 (some .int) 1 := ⟨tb2 215 (by decide +kernel) (by decide +kernel), tb2 218 (by decide +kernel) (by decide +kernel), tb2 216 (by decide +kernel) (by decide +kernel), tb2 223 (by decide +kernel) (by decide +kernel), tb2 224 (by decide +kernel) (by decide +kernel), tb1 7 (by decide +kernel) (by decide +kernel), k_Shag_breeds, ⟨_, _, _, k_Kind_breeds⟩, by decide, by decide, by decide +kernel, by decide⟩
theorem cz_X_160 {x : Cx} {g : Gv} {cc : ByteArray} {nL d pc : Nat} {ret : Option FieldType} {ρ : Option Value × Sg} {L : List (Nat × Value)} {st : List Value} {σ : Sg} (hc : Zc x g cc R_X nL ret d) (hd : decode cc pc = .ok (.invokevirtual 160, 3)) (hdd : 3 ≤ d) {w0 : Nat} {x1 : Int32} (hv0 : w0 < 6) {v : Int32} {σ1 : Sg} (hf : v_breeds w0 x1 σ = some (v, σ1)) (hst : (st.map (fun v => v.category)).sum ≤ 8) (k : Z x g nL ρ (pc + 3) L (.int v :: st) σ1) : Z x g nL ρ pc L (.int x1 :: .ref (gAd g (5, w0, 0)) :: st) σ := by
  match w0, hv0 with
  | 0, _ => exact z_callU (ci := 0) (As := [.int x1]) hc hd ul_X_160_0 (Nat.le_trans (by decide) hdd) (5, 0, 0) (dm_Kind (by decide)) rfl rfl (ok_Kind_breeds g 0 x1 (by decide) σ (v, σ1) hf) rfl rfl hst rfl k
  | 1, _ => exact z_callU (ci := 3) (As := [.int x1]) hc hd ul_X_160_1 (Nat.le_trans (by decide) hdd) (5, 1, 0) (dm_Kind (by decide)) rfl rfl (ok_Kind_breeds g 1 x1 (by decide) σ (v, σ1) hf) rfl rfl hst rfl k
  | 2, _ => exact z_callU (ci := 8) (As := [.int x1]) hc hd ul_X_160_2 (Nat.le_trans (by decide) hdd) (5, 2, 0) (dm_Kind (by decide)) rfl rfl (ok_Velvet_breeds g 2 x1 (by decide) σ (v, σ1) hf) rfl rfl hst rfl k
  | 3, _ => exact z_callU (ci := 1) (As := [.int x1]) hc hd ul_X_160_3 (Nat.le_trans (by decide) hdd) (5, 3, 0) (dm_Kind (by decide)) rfl rfl (ok_Mat_breeds g 3 x1 (by decide) σ (v, σ1) hf) rfl rfl hst rfl k
  | 4, _ => exact z_callU (ci := 6) (As := [.int x1]) hc hd ul_X_160_4 (Nat.le_trans (by decide) hdd) (5, 4, 0) (dm_Kind (by decide)) rfl rfl (ok_Kind_breeds g 4 x1 (by decide) σ (v, σ1) hf) rfl rfl hst rfl k
  | 5, _ => exact z_callU (ci := 4) (As := [.int x1]) hc hd ul_X_160_5 (Nat.le_trans (by decide) hdd) (5, 5, 0) (dm_Kind (by decide)) rfl rfl (ok_Shag_breeds g 5 x1 (by decide) σ (v, σ1) hf) rfl rfl hst rfl k
def v_gains (w0 : Nat) (w1 : Nat) (c1 : Nat) (σ : Sg) : Option (Int32 × Sg) := if w0 = 0 then f_Kind_gains w0 w1 c1 σ else if w0 = 1 then f_Runner_gains w0 w1 c1 σ else if w0 = 2 then f_Velvet_gains w0 w1 c1 σ else if w0 = 3 then f_Mat_gains w0 w1 c1 σ else if w0 = 4 then f_Runner_gains w0 w1 c1 σ else f_Shag_gains w0 w1 c1 σ
theorem ul_X_163_0 : UL R_X 163 R_Kind y_Kind_gains y_Kind_gains c_Kind_gains 2 (some .int) 1 := ⟨tb2 233 (by decide +kernel) (by decide +kernel), tb2 236 (by decide +kernel) (by decide +kernel), tb2 234 (by decide +kernel) (by decide +kernel), tb2 235 (by decide +kernel) (by decide +kernel), tb2 234 (by decide +kernel) (by decide +kernel), tb1 2 (by decide +kernel) (by decide +kernel), k_Kind_gains, ⟨_, _, _, k_Kind_gains⟩, by decide, by decide, by decide +kernel, by decide⟩
theorem ul_X_163_1 : UL R_X 163 R_Runner y_Kind_gains y_Runner_gains c_Runner_gains 2 (some .int) 1 := ⟨tb2 233 (by decide +kernel) (by decide +kernel), tb2 236 (by decide +kernel) (by decide +kernel), tb2 234 (by decide +kernel) (by decide +kernel), tb3 0 (by decide +kernel) (by decide +kernel), tb3 1 (by decide +kernel) (by decide +kernel), tb1 3 (by decide +kernel) (by decide +kernel), k_Runner_gains, ⟨_, _, _, k_Kind_gains⟩, by decide, by decide, by decide +kernel, by decide⟩
theorem ul_X_163_2 : UL R_X 163 R_Velvet y_Kind_gains y_Velvet_gains c_Velvet_gains 2 (some .int) 1 := ⟨tb2 233 (by decide +kernel) (by decide +kernel), tb2 236 (by decide +kernel) (by decide +kernel), tb2 234 (by decide +kernel) (by decide +kernel), tb3 12 (by decide +kernel) (by decide +kernel), tb3 8 (by decide +kernel) (by decide +kernel), tb1 4 (by decide +kernel) (by decide +kernel), k_Velvet_gains, ⟨_, _, _, k_Kind_gains⟩, by decide, by decide, by decide +kernel, by decide⟩
theorem ul_X_163_3 : UL R_X 163 R_Mat y_Kind_gains y_Mat_gains c_Mat_gains 2 (some .int) 1 := ⟨tb2 233 (by decide +kernel) (by decide +kernel), tb2 236 (by decide +kernel) (by decide +kernel), tb2 234 (by decide +kernel) (by decide +kernel), tb2 237 (by decide +kernel) (by decide +kernel), tb2 238 (by decide +kernel) (by decide +kernel), tb1 5 (by decide +kernel) (by decide +kernel), k_Mat_gains, ⟨_, _, _, k_Kind_gains⟩, by decide, by decide, by decide +kernel, by decide⟩
theorem ul_X_163_4 : UL R_X 163 R_Stair y_Kind_gains y_Runner_gains c_Runner_gains 2 (some .int) 1 := ⟨tb2 233 (by decide +kernel) (by decide +kernel), tb2 236 (by decide +kernel) (by decide +kernel), tb2 234 (by decide +kernel) (by decide +kernel), tb3 11 (by decide +kernel) (by decide +kernel), tb3 1 (by decide +kernel) (by decide +kernel), tb1 3 (by decide +kernel) (by decide +kernel), k_Runner_gains, ⟨_, _, _, k_Kind_gains⟩, by decide, by decide, by decide +kernel, by decide⟩
theorem ul_X_163_5 : UL R_X 163 R_Shag y_Kind_gains y_Shag_gains c_Shag_gains 2 (some .int) 1 := ⟨tb2 233 (by decide +kernel) (by decide +kernel), tb2 236 (by decide +kernel) (by decide +kernel), tb2 234 (by decide +kernel) (by decide +kernel), tb3 4 (by decide +kernel) (by decide +kernel), tb3 5 (by decide +kernel) (by decide +kernel), tb1 7 (by decide +kernel) (by decide +kernel), k_Shag_gains, ⟨_, _, _, k_Kind_gains⟩, by decide, by decide, by decide +kernel, by decide⟩
theorem cz_X_163 {x : Cx} {g : Gv} {cc : ByteArray} {nL d pc : Nat} {ret : Option FieldType} {ρ : Option Value × Sg} {L : List (Nat × Value)} {st : List Value} {σ : Sg} (hc : Zc x g cc R_X nL ret d) (hd : decode cc pc = .ok (.invokevirtual 163, 3)) (hdd : 3 ≤ d) {w0 : Nat} {w1 : Nat} {c1 : Nat} (hv0 : w0 < 6) (hv1 : okR w1 c1) {v : Int32} {σ1 : Sg} (hf : v_gains w0 w1 c1 σ = some (v, σ1)) (hst : (st.map (fun v => v.category)).sum ≤ 8) (k : Z x g nL ρ (pc + 3) L (.int v :: st) σ1) : Z x g nL ρ pc L (.ref (gAd g (2, w1, c1)) :: .ref (gAd g (5, w0, 0)) :: st) σ := by
  match w0, hv0 with
  | 0, _ => exact z_callU (ci := 0) (As := [.ref (gAd g (2, w1, c1))]) hc hd ul_X_163_0 (Nat.le_trans (by decide) hdd) (5, 0, 0) (dm_Kind (by decide)) rfl rfl (ok_Kind_gains g 0 w1 c1 (by decide) hv1 σ (v, σ1) hf) rfl rfl hst rfl k
  | 1, _ => exact z_callU (ci := 3) (As := [.ref (gAd g (2, w1, c1))]) hc hd ul_X_163_1 (Nat.le_trans (by decide) hdd) (5, 1, 0) (dm_Kind (by decide)) rfl rfl (ok_Runner_gains g 1 w1 c1 (by decide) hv1 σ (v, σ1) hf) rfl rfl hst rfl k
  | 2, _ => exact z_callU (ci := 8) (As := [.ref (gAd g (2, w1, c1))]) hc hd ul_X_163_2 (Nat.le_trans (by decide) hdd) (5, 2, 0) (dm_Kind (by decide)) rfl rfl (ok_Velvet_gains g 2 w1 c1 (by decide) hv1 σ (v, σ1) hf) rfl rfl hst rfl k
  | 3, _ => exact z_callU (ci := 1) (As := [.ref (gAd g (2, w1, c1))]) hc hd ul_X_163_3 (Nat.le_trans (by decide) hdd) (5, 3, 0) (dm_Kind (by decide)) rfl rfl (ok_Mat_gains g 3 w1 c1 (by decide) hv1 σ (v, σ1) hf) rfl rfl hst rfl k
  | 4, _ => exact z_callU (ci := 6) (As := [.ref (gAd g (2, w1, c1))]) hc hd ul_X_163_4 (Nat.le_trans (by decide) hdd) (5, 4, 0) (dm_Kind (by decide)) rfl rfl (ok_Runner_gains g 4 w1 c1 (by decide) hv1 σ (v, σ1) hf) rfl rfl hst rfl k
  | 5, _ => exact z_callU (ci := 4) (As := [.ref (gAd g (2, w1, c1))]) hc hd ul_X_163_5 (Nat.le_trans (by decide) hdd) (5, 5, 0) (dm_Kind (by decide)) rfl rfl (ok_Shag_gains g 5 w1 c1 (by decide) hv1 σ (v, σ1) hf) rfl rfl hst rfl k
def f_X_of (x1 : Int32) (x2 : Int32) (σ : Sg) : Option (Int32 × Sg) :=
  b2 (f_X_isRug x1 σ) (fun v1 σ2 => (if v1 = (iI 0) then b2 (f_X_found (iI (-1000000001)) σ2) (fun v49 σ50 => some (v49, σ50)) else Option.bind (rd x1 8) (fun j4 => (if x2 = (iI 0) then Option.bind (kd (σ2.2.2 2 0 j4)) (fun k6 => some (nI k6, σ2)) else (if x2 = (iI 1) then b2 (f_Rug_valueOf 0 j4 x2 σ2) (fun v8 σ9 => some (v8, σ9)) else (if x2 = (iI 2) then b2 (f_Rug_valueOf 0 j4 x2 σ2) (fun v11 σ12 => some (v11, σ12)) else (if x2 = (iI 3) then b2 (f_Rug_valueOf 0 j4 x2 σ2) (fun v14 σ15 => some (v14, σ15)) else (if x2 = (iI 4) then b2 (f_Rug_valueOf 0 j4 x2 σ2) (fun v17 σ18 => some (v17, σ18)) else (if x2 = (iI 5) then some (σ2.1 2 0 j4 5, σ2) else (if x2 = (iI 6) then Option.bind (kd (σ2.2.2 2 0 j4)) (fun k20 => b2 (v_reaches k20 0 j4 σ2) (fun v22 σ23 => some (v22, σ23))) else (if x2 = (iI 7) then Option.bind (kd (σ2.2.2 2 0 j4)) (fun k25 => b2 (f_World_wetAhead 0 (iI 0) σ2) (fun v27 σ28 => b2 (v_wears k25 0 j4 v27 σ28) (fun v30 σ31 => some (v30, σ31)))) else (if x2 = (iI 8) then Option.bind (kd (σ2.2.2 2 0 j4)) (fun k33 => b2 (f_World_wetAhead 0 (iI 0) σ2) (fun v35 σ36 => b2 (v_breeds k33 v35 σ36) (fun v38 σ39 => some (v38, σ39)))) else (if x2 = (iI 9) then Option.bind (kd (σ2.2.2 2 0 j4)) (fun k41 => b2 (v_gains k41 0 j4 σ2) (fun v43 σ44 => some (v43, σ44))) else b2 (f_X_found (iI (-1000000001)) σ2) (fun v46 σ47 => some (v46, σ47)))))))))))))))
theorem ok_X_of (g : Gv) (x1 : Int32) (x2 : Int32) (σ : Sg) (r : Int32 × Sg) (hf : f_X_of x1 x2 σ = some r) : Ok g y_X_of c_X_of 4 (some .int) 3 [.ref (gAd g (0, 0, 0)), .int x1, .int x2] σ (some (.int r.1), r.2) := by
  unfold f_X_of at hf
  refine Ok.of [(0, .ref (gAd g (0, 0, 0))), (1, .int x1), (2, .int x2)] (by decide) (Nat.le_of_ble_eq_true rfl) rfl ?_
  intro x hc
  have hc : Zc x g c_X_of R_X 4 (some .int) 3 := hc
  obtain ⟨ρ, hρ⟩ : ∃ ρ : Option Value × Sg, ρ = (some (.int r.1), r.2) := ⟨_, rfl⟩
  rw [← hρ]
  refine z_aload_n hc d_X_of_0 0 rfl ?_
  refine z_iload_n hc d_X_of_1 1 rfl ?_
  obtain ⟨v1, σ2, h3, hf⟩ := bd2 hf
  refine cz_X_131 hc d_X_of_2 (by decide)  h3 (Nat.le_of_ble_eq_true rfl) ?_
  refine z_if_ne (tgt := 15) hc d_X_of_5 (by decide) (fun hq => ?_) (fun hq => ?_)
  · have hf := ifn hq hf
    refine z_aload_n hc d_X_of_15 0 rfl ?_
    refine gf_X_50 hc d_X_of_16  ?_
    refine gf_X_135 hc d_X_of_19 (by decide) ?_
    refine z_iload_n hc d_X_of_22 1 rfl ?_
    obtain ⟨j4, hj5, hf⟩ := bd hf
    refine ald_rugs hc d_X_of_23 (by decide) hj5 ?_
    refine z_astore_n (L' := [(3, .ref (gAd g (2, 0, j4))), (0, .ref (gAd g (0, 0, 0))), (1, .int x1), (2, .int x2)]) hc d_X_of_24 (by decide) rfl ?_
    refine z_iload_n hc d_X_of_25 3 rfl ?_
    by_cases hq0 : x2 = (iI 0)
    · have hf := ifp hq0 hf
      refine z_tab (tgt := 80) (off := 54) (iI 0) hc d_X_of_26 hq0 (by decide) (by decide) (by decide) (by decide) ?_
      refine z_aload_n hc d_X_of_80 0 rfl ?_
      obtain ⟨k6, hk0, hf⟩ := bd hf
      have hk7 := kd_lt hk0
      refine gf_X_139 hc d_X_of_81 (okR_of (by decide) (rd_lt hj5)) hk0 ?_
      refine gf_X_143 hc d_X_of_84 hk7 ?_
      exact z_iret hc d_X_of_87 (rI hf hρ)
    have hf := ifn hq0 hf
    by_cases hq1 : x2 = (iI 1)
    · have hf := ifp hq1 hf
      refine z_tab (tgt := 88) (off := 62) (iI 1) hc d_X_of_26 hq1 (by decide) (by decide) (by decide) (by decide) ?_
      refine z_aload_n hc d_X_of_88 0 rfl ?_
      refine z_iload_n hc d_X_of_89 3 rfl ?_
      obtain ⟨v8, σ9, h10, hf⟩ := bd2 hf
      refine cz_X_146 hc d_X_of_90 (by decide) (okR_of (by decide) (rd_lt hj5)) h10 (Nat.le_of_ble_eq_true rfl) ?_
      exact z_iret hc d_X_of_93 (rI hf hρ)
    have hf := ifn hq1 hf
    by_cases hq2 : x2 = (iI 2)
    · have hf := ifp hq2 hf
      refine z_tab (tgt := 88) (off := 62) (iI 2) hc d_X_of_26 hq2 (by decide) (by decide) (by decide) (by decide) ?_
      refine z_aload_n hc d_X_of_88 0 rfl ?_
      refine z_iload_n hc d_X_of_89 3 rfl ?_
      obtain ⟨v11, σ12, h13, hf⟩ := bd2 hf
      refine cz_X_146 hc d_X_of_90 (by decide) (okR_of (by decide) (rd_lt hj5)) h13 (Nat.le_of_ble_eq_true rfl) ?_
      exact z_iret hc d_X_of_93 (rI hf hρ)
    have hf := ifn hq2 hf
    by_cases hq3 : x2 = (iI 3)
    · have hf := ifp hq3 hf
      refine z_tab (tgt := 88) (off := 62) (iI 3) hc d_X_of_26 hq3 (by decide) (by decide) (by decide) (by decide) ?_
      refine z_aload_n hc d_X_of_88 0 rfl ?_
      refine z_iload_n hc d_X_of_89 3 rfl ?_
      obtain ⟨v14, σ15, h16, hf⟩ := bd2 hf
      refine cz_X_146 hc d_X_of_90 (by decide) (okR_of (by decide) (rd_lt hj5)) h16 (Nat.le_of_ble_eq_true rfl) ?_
      exact z_iret hc d_X_of_93 (rI hf hρ)
    have hf := ifn hq3 hf
    by_cases hq4 : x2 = (iI 4)
    · have hf := ifp hq4 hf
      refine z_tab (tgt := 88) (off := 62) (iI 4) hc d_X_of_26 hq4 (by decide) (by decide) (by decide) (by decide) ?_
      refine z_aload_n hc d_X_of_88 0 rfl ?_
      refine z_iload_n hc d_X_of_89 3 rfl ?_
      obtain ⟨v17, σ18, h19, hf⟩ := bd2 hf
      refine cz_X_146 hc d_X_of_90 (by decide) (okR_of (by decide) (rd_lt hj5)) h19 (Nat.le_of_ble_eq_true rfl) ?_
      exact z_iret hc d_X_of_93 (rI hf hρ)
    have hf := ifn hq4 hf
    by_cases hq5 : x2 = (iI 5)
    · have hf := ifp hq5 hf
      refine z_tab (tgt := 94) (off := 68) (iI 5) hc d_X_of_26 hq5 (by decide) (by decide) (by decide) (by decide) ?_
      refine z_aload_n hc d_X_of_94 0 rfl ?_
      refine gf_X_149 hc d_X_of_95 (okR_of (by decide) (rd_lt hj5)) ?_
      exact z_iret hc d_X_of_98 (rI hf hρ)
    have hf := ifn hq5 hf
    by_cases hq6 : x2 = (iI 6)
    · have hf := ifp hq6 hf
      refine z_tab (tgt := 99) (off := 73) (iI 6) hc d_X_of_26 hq6 (by decide) (by decide) (by decide) (by decide) ?_
      refine z_aload_n hc d_X_of_99 0 rfl ?_
      obtain ⟨k20, hk0, hf⟩ := bd hf
      have hk21 := kd_lt hk0
      refine gf_X_139 hc d_X_of_100 (okR_of (by decide) (rd_lt hj5)) hk0 ?_
      refine z_aload_n hc d_X_of_103 0 rfl ?_
      obtain ⟨v22, σ23, h24, hf⟩ := bd2 hf
      refine cz_X_152 hc d_X_of_104 (by decide) hk21 (okR_of (by decide) (rd_lt hj5)) h24 (Nat.le_of_ble_eq_true rfl) ?_
      exact z_iret hc d_X_of_107 (rI hf hρ)
    have hf := ifn hq6 hf
    by_cases hq7 : x2 = (iI 7)
    · have hf := ifp hq7 hf
      refine z_tab (tgt := 108) (off := 82) (iI 7) hc d_X_of_26 hq7 (by decide) (by decide) (by decide) (by decide) ?_
      refine z_aload_n hc d_X_of_108 0 rfl ?_
      obtain ⟨k25, hk0, hf⟩ := bd hf
      have hk26 := kd_lt hk0
      refine gf_X_139 hc d_X_of_109 (okR_of (by decide) (rd_lt hj5)) hk0 ?_
      refine z_aload_n hc d_X_of_112 0 rfl ?_
      refine z_aload_n hc d_X_of_113 1 rfl ?_
      refine gf_X_50 hc d_X_of_114  ?_
      refine z_iconst (v := (iI 0)) hc d_X_of_117 (by decide) ?_
      obtain ⟨v27, σ28, h29, hf⟩ := bd2 hf
      refine cz_X_113 hc d_X_of_118 (by decide) (by decide) h29 (Nat.le_of_ble_eq_true rfl) ?_
      obtain ⟨v30, σ31, h32, hf⟩ := bd2 hf
      refine cz_X_156 hc d_X_of_121 (by decide) hk26 (okR_of (by decide) (rd_lt hj5)) h32 (Nat.le_of_ble_eq_true rfl) ?_
      exact z_iret hc d_X_of_124 (rI hf hρ)
    have hf := ifn hq7 hf
    by_cases hq8 : x2 = (iI 8)
    · have hf := ifp hq8 hf
      refine z_tab (tgt := 125) (off := 99) (iI 8) hc d_X_of_26 hq8 (by decide) (by decide) (by decide) (by decide) ?_
      refine z_aload_n hc d_X_of_125 0 rfl ?_
      obtain ⟨k33, hk0, hf⟩ := bd hf
      have hk34 := kd_lt hk0
      refine gf_X_139 hc d_X_of_126 (okR_of (by decide) (rd_lt hj5)) hk0 ?_
      refine z_aload_n hc d_X_of_129 1 rfl ?_
      refine gf_X_50 hc d_X_of_130  ?_
      refine z_iconst (v := (iI 0)) hc d_X_of_133 (by decide) ?_
      obtain ⟨v35, σ36, h37, hf⟩ := bd2 hf
      refine cz_X_113 hc d_X_of_134 (by decide) (by decide) h37 (Nat.le_of_ble_eq_true rfl) ?_
      obtain ⟨v38, σ39, h40, hf⟩ := bd2 hf
      refine cz_X_160 hc d_X_of_137 (by decide) hk34 h40 (Nat.le_of_ble_eq_true rfl) ?_
      exact z_iret hc d_X_of_140 (rI hf hρ)
    have hf := ifn hq8 hf
    by_cases hq9 : x2 = (iI 9)
    · have hf := ifp hq9 hf
      refine z_tab (tgt := 141) (off := 115) (iI 9) hc d_X_of_26 hq9 (by decide) (by decide) (by decide) (by decide) ?_
      refine z_aload_n hc d_X_of_141 0 rfl ?_
      obtain ⟨k41, hk0, hf⟩ := bd hf
      have hk42 := kd_lt hk0
      refine gf_X_139 hc d_X_of_142 (okR_of (by decide) (rd_lt hj5)) hk0 ?_
      refine z_aload_n hc d_X_of_145 0 rfl ?_
      obtain ⟨v43, σ44, h45, hf⟩ := bd2 hf
      refine cz_X_163 hc d_X_of_146 (by decide) hk42 (okR_of (by decide) (rd_lt hj5)) h45 (Nat.le_of_ble_eq_true rfl) ?_
      exact z_iret hc d_X_of_149 (rI hf hρ)
    have hf := ifn hq9 hf
    refine z_tabD (tgt := 150) 10 (by decide) hc d_X_of_26 (fun j hj => by match j, hj with | 0, _ => exact hq0 | 1, _ => exact hq1 | 2, _ => exact hq2 | 3, _ => exact hq3 | 4, _ => exact hq4 | 5, _ => exact hq5 | 6, _ => exact hq6 | 7, _ => exact hq7 | 8, _ => exact hq8 | 9, _ => exact hq9) (by decide) ?_
    refine z_aload_n hc d_X_of_150 1 rfl ?_
    refine z_ldc (v := (iI (-1000000001))) hc co_X_89 d_X_of_151 ?_
    obtain ⟨v46, σ47, h48, hf⟩ := bd2 hf
    refine cz_X_90 hc d_X_of_153 (by decide)  h48 (Nat.le_of_ble_eq_true rfl) ?_
    exact z_iret hc d_X_of_156 (rI hf hρ)
  · have hf := ifp hq hf
    refine z_aload_n hc d_X_of_8 0 rfl ?_
    refine z_ldc (v := (iI (-1000000001))) hc co_X_89 d_X_of_9 ?_
    obtain ⟨v49, σ50, h51, hf⟩ := bd2 hf
    refine cz_X_90 hc d_X_of_11 (by decide)  h51 (Nat.le_of_ble_eq_true rfl) ?_
    exact z_iret hc d_X_of_14 (rI hf hρ)
def f_X_maySet (x0 : Int32) (x1 : Int32) (σ : Sg) : Option (Int32 × Sg) :=
  (if x0 = (iI 1) then b2 (f_X_within x1 (iI 0) (iI 3) σ) (fun v1 σ2 => Option.bind (bo v1) (fun r4 => some (r4, σ2))) else (if x0 = (iI 2) then b2 (f_X_within x1 (iI 1) (iI 20) σ) (fun v5 σ6 => Option.bind (bo v5) (fun r8 => some (r8, σ6))) else (if x0 = (iI 3) then b2 (f_X_within x1 (iI 0) (iI 99) σ) (fun v9 σ10 => Option.bind (bo v9) (fun r12 => some (r12, σ10))) else (if x0 = (iI 4) then b2 (f_X_within x1 (iI 0) (iI 9) σ) (fun v13 σ14 => Option.bind (bo v13) (fun r16 => some (r16, σ14))) else some ((iI 0), σ)))))
theorem ok_X_maySet (g : Gv) (x0 : Int32) (x1 : Int32) (σ : Sg) (r : Int32 × Sg) (hf : f_X_maySet x0 x1 σ = some r) : Ok g y_X_maySet c_X_maySet 2 (some .boolean) 1 [.int x0, .int x1] σ (some (.int r.1), r.2) := by
  unfold f_X_maySet at hf
  refine Ok.of [(0, .int x0), (1, .int x1)] (by decide) (Nat.le_of_ble_eq_true rfl) rfl ?_
  intro x hc
  have hc : Zc x g c_X_maySet R_X 2 (some .boolean) 1 := hc
  obtain ⟨ρ, hρ⟩ : ∃ ρ : Option Value × Sg, ρ = (some (.int r.1), r.2) := ⟨_, rfl⟩
  rw [← hρ]
  refine z_iload_n hc d_X_maySet_0 0 rfl ?_
  by_cases hq0 : x0 = (iI 1)
  · have hf := ifp hq0 hf
    refine z_tab (tgt := 32) (off := 31) (iI 1) hc d_X_maySet_1 hq0 (by decide) (by decide) (by decide) (by decide) ?_
    refine z_iload_n hc d_X_maySet_32 1 rfl ?_
    refine z_iconst (v := (iI 0)) hc d_X_maySet_33 (by decide) ?_
    refine z_iconst (v := (iI 3)) hc d_X_maySet_34 (by decide) ?_
    obtain ⟨v1, σ2, h3, hf⟩ := bd2 hf
    refine cz_X_85 hc d_X_maySet_35 (by decide)  h3 (Nat.le_of_ble_eq_true rfl) ?_
    obtain ⟨r4, hb1, hf⟩ := bd hf
    exact z_bret hc d_X_maySet_38 hb1 hf hρ
  have hf := ifn hq0 hf
  by_cases hq1 : x0 = (iI 2)
  · have hf := ifp hq1 hf
    refine z_tab (tgt := 39) (off := 38) (iI 2) hc d_X_maySet_1 hq1 (by decide) (by decide) (by decide) (by decide) ?_
    refine z_iload_n hc d_X_maySet_39 1 rfl ?_
    refine z_iconst (v := (iI 1)) hc d_X_maySet_40 (by decide) ?_
    refine z_bipush (v := (iI 20)) hc d_X_maySet_41 (by decide) ?_
    obtain ⟨v5, σ6, h7, hf⟩ := bd2 hf
    refine cz_X_85 hc d_X_maySet_43 (by decide)  h7 (Nat.le_of_ble_eq_true rfl) ?_
    obtain ⟨r8, hb1, hf⟩ := bd hf
    exact z_bret hc d_X_maySet_46 hb1 hf hρ
  have hf := ifn hq1 hf
  by_cases hq2 : x0 = (iI 3)
  · have hf := ifp hq2 hf
    refine z_tab (tgt := 47) (off := 46) (iI 3) hc d_X_maySet_1 hq2 (by decide) (by decide) (by decide) (by decide) ?_
    refine z_iload_n hc d_X_maySet_47 1 rfl ?_
    refine z_iconst (v := (iI 0)) hc d_X_maySet_48 (by decide) ?_
    refine z_bipush (v := (iI 99)) hc d_X_maySet_49 (by decide) ?_
    obtain ⟨v9, σ10, h11, hf⟩ := bd2 hf
    refine cz_X_85 hc d_X_maySet_51 (by decide)  h11 (Nat.le_of_ble_eq_true rfl) ?_
    obtain ⟨r12, hb1, hf⟩ := bd hf
    exact z_bret hc d_X_maySet_54 hb1 hf hρ
  have hf := ifn hq2 hf
  by_cases hq3 : x0 = (iI 4)
  · have hf := ifp hq3 hf
    refine z_tab (tgt := 55) (off := 54) (iI 4) hc d_X_maySet_1 hq3 (by decide) (by decide) (by decide) (by decide) ?_
    refine z_iload_n hc d_X_maySet_55 1 rfl ?_
    refine z_iconst (v := (iI 0)) hc d_X_maySet_56 (by decide) ?_
    refine z_bipush (v := (iI 9)) hc d_X_maySet_57 (by decide) ?_
    obtain ⟨v13, σ14, h15, hf⟩ := bd2 hf
    refine cz_X_85 hc d_X_maySet_59 (by decide)  h15 (Nat.le_of_ble_eq_true rfl) ?_
    obtain ⟨r16, hb1, hf⟩ := bd hf
    exact z_bret hc d_X_maySet_62 hb1 hf hρ
  have hf := ifn hq3 hf
  refine z_tabD (tgt := 63) 4 (by decide) hc d_X_maySet_1 (fun j hj => by match j, hj with | 0, _ => exact hq0 | 1, _ => exact hq1 | 2, _ => exact hq2 | 3, _ => exact hq3) (by decide) ?_
  refine z_iconst (v := (iI 0)) hc d_X_maySet_63 (by decide) ?_
  exact z_zret hc d_X_maySet_64 (by decide) (rI hf hρ)
theorem vl_X_166 : SL R_X 166 y_X_maySet c_X_maySet 2 (some .boolean) 2 := ⟨tb3 18 (by decide +kernel) (by decide +kernel), tb3 19 (by decide +kernel) (by decide +kernel), tb1 1 (by decide +kernel) (by decide +kernel), k_X_maySet, by decide, by decide, by decide +kernel, by decide⟩
theorem cz_X_166 {x : Cx} {g : Gv} {cc : ByteArray} {nL d pc : Nat} {ret : Option FieldType} {ρ : Option Value × Sg} {L : List (Nat × Value)} {st : List Value} {σ : Sg} (hc : Zc x g cc R_X nL ret d) (hd : decode cc pc = .ok (.invokestatic 166, 3)) (hdd : 2 ≤ d) {x0 : Int32} {x1 : Int32} {v : Int32} {σ1 : Sg} (hf : f_X_maySet x0 x1 σ = some (v, σ1)) (hst : (st.map (fun v => v.category)).sum ≤ 8) (k : Z x g nL ρ (pc + 3) L (.int v :: st) σ1) : Z x g nL ρ pc L (.int x1 :: .int x0 :: st) σ := z_callS (As := [.int x0, .int x1]) hc hd vl_X_166 hdd (ok_X_maySet g x0 x1 σ (v, σ1) hf) rfl rfl hst rfl k
theorem vl_X_170 : VL R_X 170 y_Rug_putValue c_Rug_putValue 3 none 2 := ⟨tb3 21 (by decide +kernel) (by decide +kernel), tb3 22 (by decide +kernel) (by decide +kernel), tb3 23 (by decide +kernel) (by decide +kernel), tb1 9 (by decide +kernel) (by decide +kernel), k_Rug_putValue, by decide, by decide, by decide +kernel, by decide⟩
theorem cz_X_170 {x : Cx} {g : Gv} {cc : ByteArray} {nL d pc : Nat} {ret : Option FieldType} {ρ : Option Value × Sg} {L : List (Nat × Value)} {st : List Value} {σ : Sg} (hc : Zc x g cc R_X nL ret d) (hd : decode cc pc = .ok (.invokevirtual 170, 3)) (hdd : 1 ≤ d) {w0 : Nat} {c0 : Nat} {x1 : Int32} {x2 : Int32} (hv0 : okR w0 c0) {v : Unit} {σ1 : Sg} (hf : f_Rug_putValue w0 c0 x1 x2 σ = some (v, σ1)) (hst : (st.map (fun v => v.category)).sum ≤ 8) (k : Z x g nL ρ (pc + 3) L (st) σ1) : Z x g nL ρ pc L (.int x2 :: .int x1 :: .ref (gAd g (2, w0, c0)) :: st) σ := z_callV (ci := 2) (As := [.int x1, .int x2]) hc hd vl_X_170 hdd (2, w0, c0) (dm_Rug hv0) rfl rfl (ok_Rug_putValue g w0 c0 x1 x2 hv0 σ (v, σ1) hf) rfl rfl hst rfl k
def j_X_set_16 (σ : Sg) : Option (Int32 × Sg) :=
  b2 (f_X_found (iI (-1000000001)) σ) (fun v4 σ5 => some (v4, σ5))
theorem sj_X_set_16 {x : Cx} {g : Gv} {ρ : Option Value × Sg} (hc : Zc x g c_X_set R_X 6 (some .int) 2) (σ : Sg) (r : Int32 × Sg) (hf : j_X_set_16 σ = some r) (hρ : ρ = (some (.int r.1), r.2)) : Z x g 6 ρ 16 [(0, .ref (gAd g (0, 0, 0)))] [] σ := by
  unfold j_X_set_16 at hf
  refine z_aload_n hc d_X_set_16 0 rfl ?_
  refine z_ldc (v := (iI (-1000000001))) hc co_X_89 d_X_set_17 ?_
  obtain ⟨v4, σ5, h6, hf⟩ := bd2 hf
  refine cz_X_90 hc d_X_set_19 (by decide)  h6 (Nat.le_of_ble_eq_true rfl) ?_
  exact z_iret hc d_X_set_22 (rI hf hρ)
def f_X_set (x1 : Int32) (x2 : Int32) (x3 : Int32) (σ : Sg) : Option (Int32 × Sg) :=
  b2 (f_X_isRug x1 σ) (fun v1 σ2 => (if v1 = (iI 0) then j_X_set_16   σ2 else b2 (f_X_maySet x2 x3 σ2) (fun v7 σ8 => (if v7 = (iI 0) then j_X_set_16   σ8 else Option.bind (rd x1 8) (fun j10 => b2 (f_Rug_valueOf 0 j10 x2 σ8) (fun v12 σ13 => b2 (f_Rug_putValue 0 j10 x2 x3 σ13) (fun v15 σ16 => some (v12, σ16))))))))
theorem ok_X_set (g : Gv) (x1 : Int32) (x2 : Int32) (x3 : Int32) (σ : Sg) (r : Int32 × Sg) (hf : f_X_set x1 x2 x3 σ = some r) : Ok g y_X_set c_X_set 6 (some .int) 2 [.ref (gAd g (0, 0, 0)), .int x1, .int x2, .int x3] σ (some (.int r.1), r.2) := by
  unfold f_X_set at hf
  refine Ok.of [(0, .ref (gAd g (0, 0, 0))), (1, .int x1), (2, .int x2), (3, .int x3)] (by decide) (Nat.le_of_ble_eq_true rfl) rfl ?_
  intro x hc
  have hc : Zc x g c_X_set R_X 6 (some .int) 2 := hc
  obtain ⟨ρ, hρ⟩ : ∃ ρ : Option Value × Sg, ρ = (some (.int r.1), r.2) := ⟨_, rfl⟩
  rw [← hρ]
  refine z_aload_n hc d_X_set_0 0 rfl ?_
  refine z_iload_n hc d_X_set_1 1 rfl ?_
  obtain ⟨v1, σ2, h3, hf⟩ := bd2 hf
  refine cz_X_131 hc d_X_set_2 (by decide)  h3 (Nat.le_of_ble_eq_true rfl) ?_
  refine z_if_eq (tgt := 16) hc d_X_set_5 (by decide) (fun hq => ?_) (fun hq => ?_)
  · have hf := ifp hq hf
    refine z_sub [0] (L' := [(0, .ref (gAd g (0, 0, 0)))]) rfl ?_
    exact sj_X_set_16 hc     σ2 _ hf hρ
  · have hf := ifn hq hf
    refine z_iload_n hc d_X_set_8 2 rfl ?_
    refine z_iload_n hc d_X_set_9 3 rfl ?_
    obtain ⟨v7, σ8, h9, hf⟩ := bd2 hf
    refine cz_X_166 hc d_X_set_10 (by decide)  h9 (Nat.le_of_ble_eq_true rfl) ?_
    refine z_if_ne (tgt := 23) hc d_X_set_13 (by decide) (fun hq => ?_) (fun hq => ?_)
    · have hf := ifn hq hf
      refine z_aload_n hc d_X_set_23 0 rfl ?_
      refine gf_X_50 hc d_X_set_24  ?_
      refine gf_X_135 hc d_X_set_27 (by decide) ?_
      refine z_iload_n hc d_X_set_30 1 rfl ?_
      obtain ⟨j10, hj11, hf⟩ := bd hf
      refine ald_rugs hc d_X_set_31 (by decide) hj11 ?_
      refine z_astore (L' := [(4, .ref (gAd g (2, 0, j10))), (0, .ref (gAd g (0, 0, 0))), (1, .int x1), (2, .int x2), (3, .int x3)]) hc d_X_set_32 (by decide) rfl ?_
      refine z_aload hc d_X_set_34 0 rfl ?_
      refine z_iload_n hc d_X_set_36 3 rfl ?_
      obtain ⟨v12, σ13, h14, hf⟩ := bd2 hf
      refine cz_X_146 hc d_X_set_37 (by decide) (okR_of (by decide) (rd_lt hj11)) h14 (Nat.le_of_ble_eq_true rfl) ?_
      refine z_istore (L' := [(5, .int v12), (4, .ref (gAd g (2, 0, j10))), (0, .ref (gAd g (0, 0, 0))), (1, .int x1), (2, .int x2), (3, .int x3)]) hc d_X_set_40 (by decide) rfl ?_
      refine z_aload hc d_X_set_42 1 rfl ?_
      refine z_iload_n hc d_X_set_44 4 rfl ?_
      refine z_iload_n hc d_X_set_45 5 rfl ?_
      obtain ⟨v15, σ16, h17, hf⟩ := bd2 hf
      refine cz_X_170 hc d_X_set_46 (by decide) (okR_of (by decide) (rd_lt hj11)) h17 (Nat.le_of_ble_eq_true rfl) ?_
      refine z_iload hc d_X_set_49 0 rfl ?_
      exact z_iret hc d_X_set_51 (rI hf hρ)
    · have hf := ifp hq hf
      refine z_sub [0] (L' := [(0, .ref (gAd g (0, 0, 0)))]) rfl ?_
      exact sj_X_set_16 hc     σ8 _ hf hρ
def j_X_turn_17 (σ : Sg) : Option (Int32 × Sg) :=
  b2 (f_X_found (iI (-1000000001)) σ) (fun v4 σ5 => some (v4, σ5))
theorem sj_X_turn_17 {x : Cx} {g : Gv} {ρ : Option Value × Sg} (hc : Zc x g c_X_turn R_X 5 (some .int) 2) (σ : Sg) (r : Int32 × Sg) (hf : j_X_turn_17 σ = some r) (hρ : ρ = (some (.int r.1), r.2)) : Z x g 5 ρ 17 [(0, .ref (gAd g (0, 0, 0)))] [] σ := by
  unfold j_X_turn_17 at hf
  refine z_aload_n hc d_X_turn_17 0 rfl ?_
  refine z_ldc (v := (iI (-1000000001))) hc co_X_89 d_X_turn_18 ?_
  obtain ⟨v4, σ5, h6, hf⟩ := bd2 hf
  refine cz_X_90 hc d_X_turn_20 (by decide)  h6 (Nat.le_of_ble_eq_true rfl) ?_
  exact z_iret hc d_X_turn_23 (rI hf hρ)
def f_X_turn (x1 : Int32) (x2 : Int32) (σ : Sg) : Option (Int32 × Sg) :=
  b2 (f_X_isRug x1 σ) (fun v1 σ2 => (if v1 = (iI 0) then j_X_turn_17   σ2 else b2 (f_X_within x2 (iI 0) (iI 5) σ2) (fun v7 σ8 => (if v7 = (iI 0) then j_X_turn_17   σ8 else Option.bind (rd x1 8) (fun j10 => Option.bind (kd (σ8.2.2 2 0 j10)) (fun k12 => Option.bind (rd x2 6) (fun j14 => some (nI k12, upK σ8 2 0 j10 j14))))))))
theorem ok_X_turn (g : Gv) (x1 : Int32) (x2 : Int32) (σ : Sg) (r : Int32 × Sg) (hf : f_X_turn x1 x2 σ = some r) : Ok g y_X_turn c_X_turn 5 (some .int) 2 [.ref (gAd g (0, 0, 0)), .int x1, .int x2] σ (some (.int r.1), r.2) := by
  unfold f_X_turn at hf
  refine Ok.of [(0, .ref (gAd g (0, 0, 0))), (1, .int x1), (2, .int x2)] (by decide) (Nat.le_of_ble_eq_true rfl) rfl ?_
  intro x hc
  have hc : Zc x g c_X_turn R_X 5 (some .int) 2 := hc
  obtain ⟨ρ, hρ⟩ : ∃ ρ : Option Value × Sg, ρ = (some (.int r.1), r.2) := ⟨_, rfl⟩
  rw [← hρ]
  refine z_aload_n hc d_X_turn_0 0 rfl ?_
  refine z_iload_n hc d_X_turn_1 1 rfl ?_
  obtain ⟨v1, σ2, h3, hf⟩ := bd2 hf
  refine cz_X_131 hc d_X_turn_2 (by decide)  h3 (Nat.le_of_ble_eq_true rfl) ?_
  refine z_if_eq (tgt := 17) hc d_X_turn_5 (by decide) (fun hq => ?_) (fun hq => ?_)
  · have hf := ifp hq hf
    refine z_sub [0] (L' := [(0, .ref (gAd g (0, 0, 0)))]) rfl ?_
    exact sj_X_turn_17 hc     σ2 _ hf hρ
  · have hf := ifn hq hf
    refine z_iload_n hc d_X_turn_8 2 rfl ?_
    refine z_iconst (v := (iI 0)) hc d_X_turn_9 (by decide) ?_
    refine z_iconst (v := (iI 5)) hc d_X_turn_10 (by decide) ?_
    obtain ⟨v7, σ8, h9, hf⟩ := bd2 hf
    refine cz_X_85 hc d_X_turn_11 (by decide)  h9 (Nat.le_of_ble_eq_true rfl) ?_
    refine z_if_ne (tgt := 24) hc d_X_turn_14 (by decide) (fun hq => ?_) (fun hq => ?_)
    · have hf := ifn hq hf
      refine z_aload_n hc d_X_turn_24 0 rfl ?_
      refine gf_X_50 hc d_X_turn_25  ?_
      refine gf_X_135 hc d_X_turn_28 (by decide) ?_
      refine z_iload_n hc d_X_turn_31 1 rfl ?_
      obtain ⟨j10, hj11, hf⟩ := bd hf
      refine ald_rugs hc d_X_turn_32 (by decide) hj11 ?_
      refine z_astore_n (L' := [(3, .ref (gAd g (2, 0, j10))), (0, .ref (gAd g (0, 0, 0))), (1, .int x1), (2, .int x2)]) hc d_X_turn_33 (by decide) rfl ?_
      refine z_aload_n hc d_X_turn_34 0 rfl ?_
      obtain ⟨k12, hk0, hf⟩ := bd hf
      have hk13 := kd_lt hk0
      refine gf_X_139 hc d_X_turn_35 (okR_of (by decide) (rd_lt hj11)) hk0 ?_
      refine gf_X_143 hc d_X_turn_38 hk13 ?_
      refine z_istore (L' := [(4, .int (nI k12)), (3, .ref (gAd g (2, 0, j10))), (0, .ref (gAd g (0, 0, 0))), (1, .int x1), (2, .int x2)]) hc d_X_turn_41 (by decide) rfl ?_
      refine z_aload_n hc d_X_turn_43 1 rfl ?_
      refine z_aload_n hc d_X_turn_44 2 rfl ?_
      refine gf_X_41 hc d_X_turn_45  ?_
      refine z_iload_n hc d_X_turn_48 4 rfl ?_
      obtain ⟨j14, hj15, hf⟩ := bd hf
      refine ald_kinds hc d_X_turn_49  hj15 ?_
      refine pf_X_139 hc d_X_turn_50 (okR_of (by decide) (rd_lt hj11)) ?_
      refine z_iload hc d_X_turn_53 0 rfl ?_
      exact z_iret hc d_X_turn_55 (rI hf hρ)
    · have hf := ifp hq hf
      refine z_sub [0] (L' := [(0, .ref (gAd g (0, 0, 0)))]) rfl ?_
      exact sj_X_turn_17 hc     σ8 _ hf hρ
def v_isOrIsUnder (w0 : Nat) (x1 : Int32) (σ : Sg) : Option (Int32 × Sg) := if w0 = 0 then f_Kind_isOrIsUnder w0 x1 σ else if w0 = 1 then f_Kind_isOrIsUnder w0 x1 σ else if w0 = 2 then f_Kind_isOrIsUnder w0 x1 σ else if w0 = 3 then f_Kind_isOrIsUnder w0 x1 σ else if w0 = 4 then f_Kind_isOrIsUnder w0 x1 σ else f_Kind_isOrIsUnder w0 x1 σ
theorem ul_X_174_0 : UL R_X 174 R_Kind y_Kind_isOrIsUnder y_Kind_isOrIsUnder c_Kind_isOrIsUnder 3 (some .boolean) 1 := ⟨tb3 33 (by decide +kernel) (by decide +kernel), tb3 36 (by decide +kernel) (by decide +kernel), tb3 34 (by decide +kernel) (by decide +kernel), tb3 35 (by decide +kernel) (by decide +kernel), tb3 34 (by decide +kernel) (by decide +kernel), tb1 2 (by decide +kernel) (by decide +kernel), k_Kind_isOrIsUnder, ⟨_, _, _, k_Kind_isOrIsUnder⟩, by decide, by decide, by decide +kernel, by decide⟩
theorem ul_X_174_1 : UL R_X 174 R_Runner y_Kind_isOrIsUnder y_Kind_isOrIsUnder c_Kind_isOrIsUnder 3 (some .boolean) 1 := ⟨tb3 33 (by decide +kernel) (by decide +kernel), tb3 36 (by decide +kernel) (by decide +kernel), tb3 34 (by decide +kernel) (by decide +kernel), tb3 38 (by decide +kernel) (by decide +kernel), tb3 34 (by decide +kernel) (by decide +kernel), tb1 2 (by decide +kernel) (by decide +kernel), k_Kind_isOrIsUnder, ⟨_, _, _, k_Kind_isOrIsUnder⟩, by decide, by decide, by decide +kernel, by decide⟩
theorem ul_X_174_2 : UL R_X 174 R_Velvet y_Kind_isOrIsUnder y_Kind_isOrIsUnder c_Kind_isOrIsUnder 3 (some .boolean) 1 := ⟨tb3 33 (by decide +kernel) (by decide +kernel), tb3 36 (by decide +kernel) (by decide +kernel), tb3 34 (by decide +kernel) (by decide +kernel), tb3 41 (by decide +kernel) (by decide +kernel), tb3 34 (by decide +kernel) (by decide +kernel), tb1 2 (by decide +kernel) (by decide +kernel), k_Kind_isOrIsUnder, ⟨_, _, _, k_Kind_isOrIsUnder⟩, by decide, by decide, by decide +kernel, by decide⟩
theorem ul_X_174_3 : UL R_X 174 R_Mat y_Kind_isOrIsUnder y_Kind_isOrIsUnder c_Kind_isOrIsUnder 3 (some .boolean) 1 := ⟨tb3 33 (by decide +kernel) (by decide +kernel), tb3 36 (by decide +kernel) (by decide +kernel), tb3 34 (by decide +kernel) (by decide +kernel), tb3 37 (by decide +kernel) (by decide +kernel), tb3 34 (by decide +kernel) (by decide +kernel), tb1 2 (by decide +kernel) (by decide +kernel), k_Kind_isOrIsUnder, ⟨_, _, _, k_Kind_isOrIsUnder⟩, by decide, by decide, by decide +kernel, by decide⟩
theorem ul_X_174_4 : UL R_X 174 R_Stair y_Kind_isOrIsUnder y_Kind_isOrIsUnder c_Kind_isOrIsUnder 3 (some .boolean) 1 := ⟨tb3 33 (by decide +kernel) (by decide +kernel), tb3 36 (by decide +kernel) (by decide +kernel), tb3 34 (by decide +kernel) (by decide +kernel), tb3 40 (by decide +kernel) (by decide +kernel), tb3 34 (by decide +kernel) (by decide +kernel), tb1 2 (by decide +kernel) (by decide +kernel), k_Kind_isOrIsUnder, ⟨_, _, _, k_Kind_isOrIsUnder⟩, by decide, by decide, by decide +kernel, by decide⟩
theorem ul_X_174_5 : UL R_X 174 R_Shag y_Kind_isOrIsUnder y_Kind_isOrIsUnder c_Kind_isOrIsUnder 3 (some .boolean) 1 := ⟨tb3 33 (by decide +kernel) (by decide +kernel), tb3 36 (by decide +kernel) (by decide +kernel), tb3 34 (by decide +kernel) (by decide +kernel), tb3 39 (by decide +kernel) (by decide +kernel), tb3 34 (by decide +kernel) (by decide +kernel), tb1 2 (by decide +kernel) (by decide +kernel), k_Kind_isOrIsUnder, ⟨_, _, _, k_Kind_isOrIsUnder⟩, by decide, by decide, by decide +kernel, by decide⟩
theorem cz_X_174 {x : Cx} {g : Gv} {cc : ByteArray} {nL d pc : Nat} {ret : Option FieldType} {ρ : Option Value × Sg} {L : List (Nat × Value)} {st : List Value} {σ : Sg} (hc : Zc x g cc R_X nL ret d) (hd : decode cc pc = .ok (.invokevirtual 174, 3)) (hdd : 1 ≤ d) {w0 : Nat} {x1 : Int32} (hv0 : w0 < 6) {v : Int32} {σ1 : Sg} (hf : v_isOrIsUnder w0 x1 σ = some (v, σ1)) (hst : (st.map (fun v => v.category)).sum ≤ 8) (k : Z x g nL ρ (pc + 3) L (.int v :: st) σ1) : Z x g nL ρ pc L (.int x1 :: .ref (gAd g (5, w0, 0)) :: st) σ := by
  match w0, hv0 with
  | 0, _ => exact z_callU (ci := 0) (As := [.int x1]) hc hd ul_X_174_0 (Nat.le_trans (by decide) hdd) (5, 0, 0) (dm_Kind (by decide)) rfl rfl (ok_Kind_isOrIsUnder g 0 x1 (by decide) σ (v, σ1) hf) rfl rfl hst rfl k
  | 1, _ => exact z_callU (ci := 3) (As := [.int x1]) hc hd ul_X_174_1 (Nat.le_trans (by decide) hdd) (5, 1, 0) (dm_Kind (by decide)) rfl rfl (ok_Kind_isOrIsUnder g 1 x1 (by decide) σ (v, σ1) hf) rfl rfl hst rfl k
  | 2, _ => exact z_callU (ci := 8) (As := [.int x1]) hc hd ul_X_174_2 (Nat.le_trans (by decide) hdd) (5, 2, 0) (dm_Kind (by decide)) rfl rfl (ok_Kind_isOrIsUnder g 2 x1 (by decide) σ (v, σ1) hf) rfl rfl hst rfl k
  | 3, _ => exact z_callU (ci := 1) (As := [.int x1]) hc hd ul_X_174_3 (Nat.le_trans (by decide) hdd) (5, 3, 0) (dm_Kind (by decide)) rfl rfl (ok_Kind_isOrIsUnder g 3 x1 (by decide) σ (v, σ1) hf) rfl rfl hst rfl k
  | 4, _ => exact z_callU (ci := 6) (As := [.int x1]) hc hd ul_X_174_4 (Nat.le_trans (by decide) hdd) (5, 4, 0) (dm_Kind (by decide)) rfl rfl (ok_Kind_isOrIsUnder g 4 x1 (by decide) σ (v, σ1) hf) rfl rfl hst rfl k
  | 5, _ => exact z_callU (ci := 4) (As := [.int x1]) hc hd ul_X_174_5 (Nat.le_trans (by decide) hdd) (5, 5, 0) (dm_Kind (by decide)) rfl rfl (ok_Kind_isOrIsUnder g 5 x1 (by decide) σ (v, σ1) hf) rfl rfl hst rfl k
def j_X_as_17 (σ : Sg) : Option (Int32 × Sg) :=
  b2 (f_X_found (iI (-1000000001)) σ) (fun v4 σ5 => some (v4, σ5))
theorem sj_X_as_17 {x : Cx} {g : Gv} {ρ : Option Value × Sg} (hc : Zc x g c_X_as R_X 4 (some .int) 2) (σ : Sg) (r : Int32 × Sg) (hf : j_X_as_17 σ = some r) (hρ : ρ = (some (.int r.1), r.2)) : Z x g 4 ρ 17 [(0, .ref (gAd g (0, 0, 0)))] [] σ := by
  unfold j_X_as_17 at hf
  refine z_aload_n hc d_X_as_17 0 rfl ?_
  refine z_ldc (v := (iI (-1000000001))) hc co_X_89 d_X_as_18 ?_
  obtain ⟨v4, σ5, h6, hf⟩ := bd2 hf
  refine cz_X_90 hc d_X_as_20 (by decide)  h6 (Nat.le_of_ble_eq_true rfl) ?_
  exact z_iret hc d_X_as_23 (rI hf hρ)
def f_X_as (x1 : Int32) (x2 : Int32) (σ : Sg) : Option (Int32 × Sg) :=
  b2 (f_X_isRug x1 σ) (fun v1 σ2 => (if v1 = (iI 0) then j_X_as_17   σ2 else b2 (f_X_within x2 (iI 0) (iI 5) σ2) (fun v7 σ8 => (if v7 = (iI 0) then j_X_as_17   σ8 else Option.bind (rd x1 8) (fun j10 => Option.bind (kd (σ8.2.2 2 0 j10)) (fun k12 => b2 (v_isOrIsUnder k12 x2 σ8) (fun v14 σ15 => (if v14 = (iI 0) then b2 (f_X_found (iI (-1000000003)) σ15) (fun v17 σ18 => some (v17, σ18)) else some (σ15.1 2 0 j10 3, σ15)))))))))
theorem ok_X_as (g : Gv) (x1 : Int32) (x2 : Int32) (σ : Sg) (r : Int32 × Sg) (hf : f_X_as x1 x2 σ = some r) : Ok g y_X_as c_X_as 4 (some .int) 2 [.ref (gAd g (0, 0, 0)), .int x1, .int x2] σ (some (.int r.1), r.2) := by
  unfold f_X_as at hf
  refine Ok.of [(0, .ref (gAd g (0, 0, 0))), (1, .int x1), (2, .int x2)] (by decide) (Nat.le_of_ble_eq_true rfl) rfl ?_
  intro x hc
  have hc : Zc x g c_X_as R_X 4 (some .int) 2 := hc
  obtain ⟨ρ, hρ⟩ : ∃ ρ : Option Value × Sg, ρ = (some (.int r.1), r.2) := ⟨_, rfl⟩
  rw [← hρ]
  refine z_aload_n hc d_X_as_0 0 rfl ?_
  refine z_iload_n hc d_X_as_1 1 rfl ?_
  obtain ⟨v1, σ2, h3, hf⟩ := bd2 hf
  refine cz_X_131 hc d_X_as_2 (by decide)  h3 (Nat.le_of_ble_eq_true rfl) ?_
  refine z_if_eq (tgt := 17) hc d_X_as_5 (by decide) (fun hq => ?_) (fun hq => ?_)
  · have hf := ifp hq hf
    refine z_sub [0] (L' := [(0, .ref (gAd g (0, 0, 0)))]) rfl ?_
    exact sj_X_as_17 hc     σ2 _ hf hρ
  · have hf := ifn hq hf
    refine z_iload_n hc d_X_as_8 2 rfl ?_
    refine z_iconst (v := (iI 0)) hc d_X_as_9 (by decide) ?_
    refine z_iconst (v := (iI 5)) hc d_X_as_10 (by decide) ?_
    obtain ⟨v7, σ8, h9, hf⟩ := bd2 hf
    refine cz_X_85 hc d_X_as_11 (by decide)  h9 (Nat.le_of_ble_eq_true rfl) ?_
    refine z_if_ne (tgt := 24) hc d_X_as_14 (by decide) (fun hq => ?_) (fun hq => ?_)
    · have hf := ifn hq hf
      refine z_aload_n hc d_X_as_24 0 rfl ?_
      refine gf_X_50 hc d_X_as_25  ?_
      refine gf_X_135 hc d_X_as_28 (by decide) ?_
      refine z_iload_n hc d_X_as_31 1 rfl ?_
      obtain ⟨j10, hj11, hf⟩ := bd hf
      refine ald_rugs hc d_X_as_32 (by decide) hj11 ?_
      refine z_astore_n (L' := [(3, .ref (gAd g (2, 0, j10))), (0, .ref (gAd g (0, 0, 0))), (1, .int x1), (2, .int x2)]) hc d_X_as_33 (by decide) rfl ?_
      refine z_aload_n hc d_X_as_34 0 rfl ?_
      obtain ⟨k12, hk0, hf⟩ := bd hf
      have hk13 := kd_lt hk0
      refine gf_X_139 hc d_X_as_35 (okR_of (by decide) (rd_lt hj11)) hk0 ?_
      refine z_iload_n hc d_X_as_38 3 rfl ?_
      obtain ⟨v14, σ15, h16, hf⟩ := bd2 hf
      refine cz_X_174 hc d_X_as_39 (by decide) hk13 h16 (Nat.le_of_ble_eq_true rfl) ?_
      refine z_if_ne (tgt := 52) hc d_X_as_42 (by decide) (fun hq => ?_) (fun hq => ?_)
      · have hf := ifn hq hf
        refine z_aload_n hc d_X_as_52 0 rfl ?_
        refine gf_X_178 hc d_X_as_53 (okR_of (by decide) (rd_lt hj11)) ?_
        exact z_iret hc d_X_as_56 (rI hf hρ)
      · have hf := ifp hq hf
        refine z_aload_n hc d_X_as_45 1 rfl ?_
        refine z_ldc (v := (iI (-1000000003))) hc co_X_177 d_X_as_46 ?_
        obtain ⟨v17, σ18, h19, hf⟩ := bd2 hf
        refine cz_X_90 hc d_X_as_48 (by decide)  h19 (Nat.le_of_ble_eq_true rfl) ?_
        exact z_iret hc d_X_as_51 (rI hf hρ)
    · have hf := ifp hq hf
      refine z_sub [0] (L' := [(0, .ref (gAd g (0, 0, 0)))]) rfl ?_
      exact sj_X_as_17 hc     σ8 _ hf hρ
theorem vl_X_182 : VL R_X 182 y_World_layOut c_World_layOut 3 none 2 := ⟨tb3 49 (by decide +kernel) (by decide +kernel), tb3 50 (by decide +kernel) (by decide +kernel), tb3 51 (by decide +kernel) (by decide +kernel), tb1 8 (by decide +kernel) (by decide +kernel), k_World_layOut, by decide, by decide, by decide +kernel, by decide⟩
theorem cz_X_182 {x : Cx} {g : Gv} {cc : ByteArray} {nL d pc : Nat} {ret : Option FieldType} {ρ : Option Value × Sg} {L : List (Nat × Value)} {st : List Value} {σ : Sg} (hc : Zc x g cc R_X nL ret d) (hd : decode cc pc = .ok (.invokevirtual 182, 3)) (hdd : 2 ≤ d) {w0 : Nat} {w1 : Nat} {c1 : Nat} {x2 : Int32} (hv0 : w0 < 3) (hv1 : okR w1 c1) {v : Unit} {σ1 : Sg} (hf : f_World_layOut w0 w1 c1 x2 σ = some (v, σ1)) (hst : (st.map (fun v => v.category)).sum ≤ 8) (k : Z x g nL ρ (pc + 3) L (st) σ1) : Z x g nL ρ pc L (.int x2 :: .ref (gAd g (2, w1, c1)) :: .ref (gAd g (1, w0, 0)) :: st) σ := z_callV (ci := 9) (As := [.ref (gAd g (2, w1, c1)), .int x2]) hc hd vl_X_182 hdd (1, w0, 0) (dm_World hv0) rfl rfl (ok_World_layOut g w0 w1 c1 x2 hv0 hv1 σ (v, σ1) hf) rfl rfl hst rfl k
theorem vl_X_186 : VL R_X 186 y_Rug_yardsCovered c_Rug_yardsCovered 1 (some .int) 0 := ⟨tb3 55 (by decide +kernel) (by decide +kernel), tb2 65 (by decide +kernel) (by decide +kernel), tb2 66 (by decide +kernel) (by decide +kernel), tb1 9 (by decide +kernel) (by decide +kernel), k_Rug_yardsCovered, by decide, by decide, by decide +kernel, by decide⟩
theorem cz_X_186 {x : Cx} {g : Gv} {cc : ByteArray} {nL d pc : Nat} {ret : Option FieldType} {ρ : Option Value × Sg} {L : List (Nat × Value)} {st : List Value} {σ : Sg} (hc : Zc x g cc R_X nL ret d) (hd : decode cc pc = .ok (.invokevirtual 186, 3)) (hdd : 3 ≤ d) {w0 : Nat} {c0 : Nat} (hv0 : okR w0 c0) {v : Int32} {σ1 : Sg} (hf : f_Rug_yardsCovered w0 c0 σ = some (v, σ1)) (hst : (st.map (fun v => v.category)).sum ≤ 8) (k : Z x g nL ρ (pc + 3) L (.int v :: st) σ1) : Z x g nL ρ pc L (.ref (gAd g (2, w0, c0)) :: st) σ := z_callV (ci := 2) (As := []) hc hd vl_X_186 hdd (2, w0, c0) (dm_Rug hv0) rfl rfl (ok_Rug_yardsCovered g w0 c0 hv0 σ (v, σ1) hf) rfl rfl hst rfl k
def j_X_roll_18 (σ : Sg) : Option (Int32 × Sg) :=
  b2 (f_X_found (iI (-1000000001)) σ) (fun v4 σ5 => some (v4, σ5))
theorem sj_X_roll_18 {x : Cx} {g : Gv} {ρ : Option Value × Sg} (hc : Zc x g c_X_roll R_X 4 (some .int) 3) (σ : Sg) (r : Int32 × Sg) (hf : j_X_roll_18 σ = some r) (hρ : ρ = (some (.int r.1), r.2)) : Z x g 4 ρ 18 [(0, .ref (gAd g (0, 0, 0)))] [] σ := by
  unfold j_X_roll_18 at hf
  refine z_aload_n hc d_X_roll_18 0 rfl ?_
  refine z_ldc (v := (iI (-1000000001))) hc co_X_89 d_X_roll_19 ?_
  obtain ⟨v4, σ5, h6, hf⟩ := bd2 hf
  refine cz_X_90 hc d_X_roll_21 (by decide)  h6 (Nat.le_of_ble_eq_true rfl) ?_
  exact z_iret hc d_X_roll_24 (rI hf hρ)
def f_X_roll (x1 : Int32) (x2 : Int32) (σ : Sg) : Option (Int32 × Sg) :=
  b2 (f_X_isRug x1 σ) (fun v1 σ2 => (if v1 = (iI 0) then j_X_roll_18   σ2 else b2 (f_X_within x2 (iI 0) (iI 39) σ2) (fun v7 σ8 => (if v7 = (iI 0) then j_X_roll_18   σ8 else Option.bind (rd x1 8) (fun j10 => (if (σ8.1 2 0 j10 3) = (iI 0) then b2 (f_X_found (iI (-1000000005)) σ8) (fun v18 σ19 => some (v18, σ19)) else b2 (f_World_layOut 0 0 j10 x2 σ8) (fun v12 σ13 => b2 (f_Rug_yardsCovered 0 j10 σ13) (fun v15 σ16 => some (v15, σ16)))))))))
theorem ok_X_roll (g : Gv) (x1 : Int32) (x2 : Int32) (σ : Sg) (r : Int32 × Sg) (hf : f_X_roll x1 x2 σ = some r) : Ok g y_X_roll c_X_roll 4 (some .int) 3 [.ref (gAd g (0, 0, 0)), .int x1, .int x2] σ (some (.int r.1), r.2) := by
  unfold f_X_roll at hf
  refine Ok.of [(0, .ref (gAd g (0, 0, 0))), (1, .int x1), (2, .int x2)] (by decide) (Nat.le_of_ble_eq_true rfl) rfl ?_
  intro x hc
  have hc : Zc x g c_X_roll R_X 4 (some .int) 3 := hc
  obtain ⟨ρ, hρ⟩ : ∃ ρ : Option Value × Sg, ρ = (some (.int r.1), r.2) := ⟨_, rfl⟩
  rw [← hρ]
  refine z_aload_n hc d_X_roll_0 0 rfl ?_
  refine z_iload_n hc d_X_roll_1 1 rfl ?_
  obtain ⟨v1, σ2, h3, hf⟩ := bd2 hf
  refine cz_X_131 hc d_X_roll_2 (by decide)  h3 (Nat.le_of_ble_eq_true rfl) ?_
  refine z_if_eq (tgt := 18) hc d_X_roll_5 (by decide) (fun hq => ?_) (fun hq => ?_)
  · have hf := ifp hq hf
    refine z_sub [0] (L' := [(0, .ref (gAd g (0, 0, 0)))]) rfl ?_
    exact sj_X_roll_18 hc     σ2 _ hf hρ
  · have hf := ifn hq hf
    refine z_iload_n hc d_X_roll_8 2 rfl ?_
    refine z_iconst (v := (iI 0)) hc d_X_roll_9 (by decide) ?_
    refine z_bipush (v := (iI 39)) hc d_X_roll_10 (by decide) ?_
    obtain ⟨v7, σ8, h9, hf⟩ := bd2 hf
    refine cz_X_85 hc d_X_roll_12 (by decide)  h9 (Nat.le_of_ble_eq_true rfl) ?_
    refine z_if_ne (tgt := 25) hc d_X_roll_15 (by decide) (fun hq => ?_) (fun hq => ?_)
    · have hf := ifn hq hf
      refine z_aload_n hc d_X_roll_25 0 rfl ?_
      refine gf_X_50 hc d_X_roll_26  ?_
      refine gf_X_135 hc d_X_roll_29 (by decide) ?_
      refine z_iload_n hc d_X_roll_32 1 rfl ?_
      obtain ⟨j10, hj11, hf⟩ := bd hf
      refine ald_rugs hc d_X_roll_33 (by decide) hj11 ?_
      refine z_astore_n (L' := [(3, .ref (gAd g (2, 0, j10))), (0, .ref (gAd g (0, 0, 0))), (1, .int x1), (2, .int x2)]) hc d_X_roll_34 (by decide) rfl ?_
      refine z_aload_n hc d_X_roll_35 0 rfl ?_
      refine gf_X_178 hc d_X_roll_36 (okR_of (by decide) (rd_lt hj11)) ?_
      refine z_if_ne (tgt := 49) hc d_X_roll_39 (by decide) (fun hq => ?_) (fun hq => ?_)
      · have hf := ifn hq hf
        refine z_aload_n hc d_X_roll_49 1 rfl ?_
        refine gf_X_50 hc d_X_roll_50  ?_
        refine z_aload_n hc d_X_roll_53 0 rfl ?_
        refine z_iload_n hc d_X_roll_54 3 rfl ?_
        obtain ⟨v12, σ13, h14, hf⟩ := bd2 hf
        refine cz_X_182 hc d_X_roll_55 (by decide) (by decide) (okR_of (by decide) (rd_lt hj11)) h14 (Nat.le_of_ble_eq_true rfl) ?_
        refine z_aload_n hc d_X_roll_58 0 rfl ?_
        obtain ⟨v15, σ16, h17, hf⟩ := bd2 hf
        refine cz_X_186 hc d_X_roll_59 (by decide) (okR_of (by decide) (rd_lt hj11)) h17 (Nat.le_of_ble_eq_true rfl) ?_
        exact z_iret hc d_X_roll_62 (rI hf hρ)
      · have hf := ifp hq hf
        refine z_aload_n hc d_X_roll_42 1 rfl ?_
        refine z_ldc (v := (iI (-1000000005))) hc co_X_181 d_X_roll_43 ?_
        obtain ⟨v18, σ19, h20, hf⟩ := bd2 hf
        refine cz_X_90 hc d_X_roll_45 (by decide)  h20 (Nat.le_of_ble_eq_true rfl) ?_
        exact z_iret hc d_X_roll_48 (rI hf hρ)
    · have hf := ifp hq hf
      refine z_sub [0] (L' := [(0, .ref (gAd g (0, 0, 0)))]) rfl ?_
      exact sj_X_roll_18 hc     σ8 _ hf hρ
theorem vl_X_189 : VL R_X 189 y_Rug_isOut c_Rug_isOut 1 (some .boolean) 0 := ⟨tb3 60 (by decide +kernel) (by decide +kernel), tb2 61 (by decide +kernel) (by decide +kernel), tb2 62 (by decide +kernel) (by decide +kernel), tb1 9 (by decide +kernel) (by decide +kernel), k_Rug_isOut, by decide, by decide, by decide +kernel, by decide⟩
theorem cz_X_189 {x : Cx} {g : Gv} {cc : ByteArray} {nL d pc : Nat} {ret : Option FieldType} {ρ : Option Value × Sg} {L : List (Nat × Value)} {st : List Value} {σ : Sg} (hc : Zc x g cc R_X nL ret d) (hd : decode cc pc = .ok (.invokevirtual 189, 3)) (hdd : 1 ≤ d) {w0 : Nat} {c0 : Nat} (hv0 : okR w0 c0) {v : Int32} {σ1 : Sg} (hf : f_Rug_isOut w0 c0 σ = some (v, σ1)) (hst : (st.map (fun v => v.category)).sum ≤ 8) (k : Z x g nL ρ (pc + 3) L (.int v :: st) σ1) : Z x g nL ρ pc L (.ref (gAd g (2, w0, c0)) :: st) σ := z_callV (ci := 2) (As := []) hc hd vl_X_189 hdd (2, w0, c0) (dm_Rug hv0) rfl rfl (ok_Rug_isOut g w0 c0 hv0 σ (v, σ1) hf) rfl rfl hst rfl k
theorem vl_X_193 : VL R_X 193 y_Rug_putAway c_Rug_putAway 1 none 0 := ⟨tb3 61 (by decide +kernel) (by decide +kernel), tb2 174 (by decide +kernel) (by decide +kernel), tb2 175 (by decide +kernel) (by decide +kernel), tb1 9 (by decide +kernel) (by decide +kernel), k_Rug_putAway, by decide, by decide, by decide +kernel, by decide⟩
theorem cz_X_193 {x : Cx} {g : Gv} {cc : ByteArray} {nL d pc : Nat} {ret : Option FieldType} {ρ : Option Value × Sg} {L : List (Nat × Value)} {st : List Value} {σ : Sg} (hc : Zc x g cc R_X nL ret d) (hd : decode cc pc = .ok (.invokevirtual 193, 3)) (hdd : 1 ≤ d) {w0 : Nat} {c0 : Nat} (hv0 : okR w0 c0) {v : Unit} {σ1 : Sg} (hf : f_Rug_putAway w0 c0 σ = some (v, σ1)) (hst : (st.map (fun v => v.category)).sum ≤ 8) (k : Z x g nL ρ (pc + 3) L (st) σ1) : Z x g nL ρ pc L (.ref (gAd g (2, w0, c0)) :: st) σ := z_callV (ci := 2) (As := []) hc hd vl_X_193 hdd (2, w0, c0) (dm_Rug hv0) rfl rfl (ok_Rug_putAway g w0 c0 hv0 σ (v, σ1) hf) rfl rfl hst rfl k
def f_X_up (x1 : Int32) (σ : Sg) : Option (Int32 × Sg) :=
  b2 (f_X_isRug x1 σ) (fun v1 σ2 => (if v1 = (iI 0) then b2 (f_X_found (iI (-1000000001)) σ2) (fun v15 σ16 => some (v15, σ16)) else Option.bind (rd x1 8) (fun j4 => b2 (f_Rug_isOut 0 j4 σ2) (fun v6 σ7 => (if v6 = (iI 0) then b2 (f_X_found (iI (-1000000005)) σ7) (fun v12 σ13 => some (v12, σ13)) else b2 (f_Rug_putAway 0 j4 σ7) (fun v9 σ10 => some (σ7.1 2 0 j4 5, σ10)))))))
theorem ok_X_up (g : Gv) (x1 : Int32) (σ : Sg) (r : Int32 × Sg) (hf : f_X_up x1 σ = some r) : Ok g y_X_up c_X_up 4 (some .int) 2 [.ref (gAd g (0, 0, 0)), .int x1] σ (some (.int r.1), r.2) := by
  unfold f_X_up at hf
  refine Ok.of [(0, .ref (gAd g (0, 0, 0))), (1, .int x1)] (by decide) (Nat.le_of_ble_eq_true rfl) rfl ?_
  intro x hc
  have hc : Zc x g c_X_up R_X 4 (some .int) 2 := hc
  obtain ⟨ρ, hρ⟩ : ∃ ρ : Option Value × Sg, ρ = (some (.int r.1), r.2) := ⟨_, rfl⟩
  rw [← hρ]
  refine z_aload_n hc d_X_up_0 0 rfl ?_
  refine z_iload_n hc d_X_up_1 1 rfl ?_
  obtain ⟨v1, σ2, h3, hf⟩ := bd2 hf
  refine cz_X_131 hc d_X_up_2 (by decide)  h3 (Nat.le_of_ble_eq_true rfl) ?_
  refine z_if_ne (tgt := 15) hc d_X_up_5 (by decide) (fun hq => ?_) (fun hq => ?_)
  · have hf := ifn hq hf
    refine z_aload_n hc d_X_up_15 0 rfl ?_
    refine gf_X_50 hc d_X_up_16  ?_
    refine gf_X_135 hc d_X_up_19 (by decide) ?_
    refine z_iload_n hc d_X_up_22 1 rfl ?_
    obtain ⟨j4, hj5, hf⟩ := bd hf
    refine ald_rugs hc d_X_up_23 (by decide) hj5 ?_
    refine z_astore_n (L' := [(2, .ref (gAd g (2, 0, j4))), (0, .ref (gAd g (0, 0, 0))), (1, .int x1)]) hc d_X_up_24 (by decide) rfl ?_
    refine z_aload_n hc d_X_up_25 0 rfl ?_
    obtain ⟨v6, σ7, h8, hf⟩ := bd2 hf
    refine cz_X_189 hc d_X_up_26 (by decide) (okR_of (by decide) (rd_lt hj5)) h8 (Nat.le_of_ble_eq_true rfl) ?_
    refine z_if_ne (tgt := 39) hc d_X_up_29 (by decide) (fun hq => ?_) (fun hq => ?_)
    · have hf := ifn hq hf
      refine z_aload_n hc d_X_up_39 0 rfl ?_
      refine gf_X_149 hc d_X_up_40 (okR_of (by decide) (rd_lt hj5)) ?_
      refine z_istore_n (L' := [(3, .int (σ7.1 2 0 j4 5)), (2, .ref (gAd g (2, 0, j4))), (0, .ref (gAd g (0, 0, 0))), (1, .int x1)]) hc d_X_up_43 (by decide) rfl ?_
      refine z_aload_n hc d_X_up_44 1 rfl ?_
      obtain ⟨v9, σ10, h11, hf⟩ := bd2 hf
      refine cz_X_193 hc d_X_up_45 (by decide) (okR_of (by decide) (rd_lt hj5)) h11 (Nat.le_of_ble_eq_true rfl) ?_
      refine z_iload_n hc d_X_up_48 0 rfl ?_
      exact z_iret hc d_X_up_49 (rI hf hρ)
    · have hf := ifp hq hf
      refine z_aload_n hc d_X_up_32 1 rfl ?_
      refine z_ldc (v := (iI (-1000000005))) hc co_X_181 d_X_up_33 ?_
      obtain ⟨v12, σ13, h14, hf⟩ := bd2 hf
      refine cz_X_90 hc d_X_up_35 (by decide)  h14 (Nat.le_of_ble_eq_true rfl) ?_
      exact z_iret hc d_X_up_38 (rI hf hρ)
  · have hf := ifp hq hf
    refine z_aload_n hc d_X_up_8 0 rfl ?_
    refine z_ldc (v := (iI (-1000000001))) hc co_X_89 d_X_up_9 ?_
    obtain ⟨v15, σ16, h17, hf⟩ := bd2 hf
    refine cz_X_90 hc d_X_up_11 (by decide)  h17 (Nat.le_of_ble_eq_true rfl) ?_
    exact z_iret hc d_X_up_14 (rI hf hρ)
def f_X_beat (x1 : Int32) (σ : Sg) : Option (Int32 × Sg) :=
  b2 (f_X_isRug x1 σ) (fun v1 σ2 => (if v1 = (iI 0) then b2 (f_X_found (iI (-1000000001)) σ2) (fun v11 σ12 => some (v11, σ12)) else Option.bind (rd x1 8) (fun j4 => Option.bind (kd (σ2.2.2 2 0 j4)) (fun k6 => b2 (v_gains k6 0 j4 σ2) (fun v8 σ9 => some ((upI (upI σ9 2 0 j4 3 (if (iI 0) < (if ((σ2.1 2 0 j4 3) + v8) < (iI 99) then ((σ2.1 2 0 j4 3) + v8) else (iI 99)) then (if ((σ2.1 2 0 j4 3) + v8) < (iI 99) then ((σ2.1 2 0 j4 3) + v8) else (iI 99)) else (iI 0))) 2 0 j4 4 (iI 0)).1 2 0 j4 3, upI (upI σ9 2 0 j4 3 (if (iI 0) < (if ((σ2.1 2 0 j4 3) + v8) < (iI 99) then ((σ2.1 2 0 j4 3) + v8) else (iI 99)) then (if ((σ2.1 2 0 j4 3) + v8) < (iI 99) then ((σ2.1 2 0 j4 3) + v8) else (iI 99)) else (iI 0))) 2 0 j4 4 (iI 0)))))))
theorem ok_X_beat (g : Gv) (x1 : Int32) (σ : Sg) (r : Int32 × Sg) (hf : f_X_beat x1 σ = some r) : Ok g y_X_beat c_X_beat 3 (some .int) 3 [.ref (gAd g (0, 0, 0)), .int x1] σ (some (.int r.1), r.2) := by
  unfold f_X_beat at hf
  refine Ok.of [(0, .ref (gAd g (0, 0, 0))), (1, .int x1)] (by decide) (Nat.le_of_ble_eq_true rfl) rfl ?_
  intro x hc
  have hc : Zc x g c_X_beat R_X 3 (some .int) 3 := hc
  obtain ⟨ρ, hρ⟩ : ∃ ρ : Option Value × Sg, ρ = (some (.int r.1), r.2) := ⟨_, rfl⟩
  rw [← hρ]
  refine z_aload_n hc d_X_beat_0 0 rfl ?_
  refine z_iload_n hc d_X_beat_1 1 rfl ?_
  obtain ⟨v1, σ2, h3, hf⟩ := bd2 hf
  refine cz_X_131 hc d_X_beat_2 (by decide)  h3 (Nat.le_of_ble_eq_true rfl) ?_
  refine z_if_ne (tgt := 15) hc d_X_beat_5 (by decide) (fun hq => ?_) (fun hq => ?_)
  · have hf := ifn hq hf
    refine z_aload_n hc d_X_beat_15 0 rfl ?_
    refine gf_X_50 hc d_X_beat_16  ?_
    refine gf_X_135 hc d_X_beat_19 (by decide) ?_
    refine z_iload_n hc d_X_beat_22 1 rfl ?_
    obtain ⟨j4, hj5, hf⟩ := bd hf
    refine ald_rugs hc d_X_beat_23 (by decide) hj5 ?_
    refine z_astore_n (L' := [(2, .ref (gAd g (2, 0, j4))), (0, .ref (gAd g (0, 0, 0))), (1, .int x1)]) hc d_X_beat_24 (by decide) rfl ?_
    refine z_aload_n hc d_X_beat_25 0 rfl ?_
    refine z_iconst (v := (iI 0)) hc d_X_beat_26 (by decide) ?_
    refine z_bipush (v := (iI 99)) hc d_X_beat_27 (by decide) ?_
    refine z_aload_n hc d_X_beat_29 0 rfl ?_
    refine gf_X_178 hc d_X_beat_30 (okR_of (by decide) (rd_lt hj5)) ?_
    refine z_aload_n hc d_X_beat_33 0 rfl ?_
    obtain ⟨k6, hk0, hf⟩ := bd hf
    have hk7 := kd_lt hk0
    refine gf_X_139 hc d_X_beat_34 (okR_of (by decide) (rd_lt hj5)) hk0 ?_
    refine z_aload_n hc d_X_beat_37 0 rfl ?_
    obtain ⟨v8, σ9, h10, hf⟩ := bd2 hf
    refine cz_X_163 hc d_X_beat_38 (by decide) hk7 (okR_of (by decide) (rd_lt hj5)) h10 (Nat.le_of_ble_eq_true rfl) ?_
    refine z_iadd hc d_X_beat_41 ?_
    refine z_min hc d_X_beat_42 ml_X_196 (by decide) (Nat.le_of_ble_eq_true rfl) ?_
    refine z_max hc d_X_beat_45 ml_X_202 (by decide) (Nat.le_of_ble_eq_true rfl) ?_
    refine pf_X_178 hc d_X_beat_48 (okR_of (by decide) (rd_lt hj5)) ?_
    refine z_aload_n hc d_X_beat_51 0 rfl ?_
    refine z_iconst (v := (iI 0)) hc d_X_beat_52 (by decide) ?_
    refine pf_X_205 hc d_X_beat_53 (okR_of (by decide) (rd_lt hj5)) ?_
    refine z_aload_n hc d_X_beat_56 0 rfl ?_
    refine gf_X_178 hc d_X_beat_57 (okR_of (by decide) (rd_lt hj5)) ?_
    exact z_iret hc d_X_beat_60 (rI hf hρ)
  · have hf := ifp hq hf
    refine z_aload_n hc d_X_beat_8 0 rfl ?_
    refine z_ldc (v := (iI (-1000000001))) hc co_X_89 d_X_beat_9 ?_
    obtain ⟨v11, σ12, h13, hf⟩ := bd2 hf
    refine cz_X_90 hc d_X_beat_11 (by decide)  h13 (Nat.le_of_ble_eq_true rfl) ?_
    exact z_iret hc d_X_beat_14 (rI hf hρ)
theorem vl_X_208 : VL R_X 208 y_World_passDays c_World_passDays 5 none 1 := ⟨tb3 72 (by decide +kernel) (by decide +kernel), tb3 73 (by decide +kernel) (by decide +kernel), tb3 74 (by decide +kernel) (by decide +kernel), tb1 8 (by decide +kernel) (by decide +kernel), k_World_passDays, by decide, by decide, by decide +kernel, by decide⟩
theorem cz_X_208 {x : Cx} {g : Gv} {cc : ByteArray} {nL d pc : Nat} {ret : Option FieldType} {ρ : Option Value × Sg} {L : List (Nat × Value)} {st : List Value} {σ : Sg} (hc : Zc x g cc R_X nL ret d) (hd : decode cc pc = .ok (.invokevirtual 208, 3)) (hdd : 5 ≤ d) {w0 : Nat} {x1 : Int32} (hv0 : w0 < 3) {v : Unit} {σ1 : Sg} (hf : f_World_passDays w0 x1 σ = some (v, σ1)) (hst : (st.map (fun v => v.category)).sum ≤ 8) (k : Z x g nL ρ (pc + 3) L (st) σ1) : Z x g nL ρ pc L (.int x1 :: .ref (gAd g (1, w0, 0)) :: st) σ := z_callV (ci := 9) (As := [.int x1]) hc hd vl_X_208 hdd (1, w0, 0) (dm_World hv0) rfl rfl (ok_World_passDays g w0 x1 hv0 σ (v, σ1) hf) rfl rfl hst rfl k
def f_X_days (x1 : Int32) (σ : Sg) : Option (Int32 × Sg) :=
  b2 (f_X_within x1 (iI 1) (iI 60) σ) (fun v1 σ2 => (if v1 = (iI 0) then b2 (f_X_found (iI (-1000000001)) σ2) (fun v13 σ14 => some (v13, σ14)) else (if (σ2.1 1 0 0 1) ≤ ((iI 9999) - x1) then b2 (f_World_passDays 0 x1 σ2) (fun v4 σ5 => b2 (f_World_setOut 0 σ5) (fun v7 σ8 => some (v7, σ8))) else b2 (f_X_found (iI (-1000000005)) σ2) (fun v10 σ11 => some (v10, σ11)))))
theorem ok_X_days (g : Gv) (x1 : Int32) (σ : Sg) (r : Int32 × Sg) (hf : f_X_days x1 σ = some r) : Ok g y_X_days c_X_days 2 (some .int) 5 [.ref (gAd g (0, 0, 0)), .int x1] σ (some (.int r.1), r.2) := by
  unfold f_X_days at hf
  refine Ok.of [(0, .ref (gAd g (0, 0, 0))), (1, .int x1)] (by decide) (Nat.le_of_ble_eq_true rfl) rfl ?_
  intro x hc
  have hc : Zc x g c_X_days R_X 2 (some .int) 5 := hc
  obtain ⟨ρ, hρ⟩ : ∃ ρ : Option Value × Sg, ρ = (some (.int r.1), r.2) := ⟨_, rfl⟩
  rw [← hρ]
  refine z_iload_n hc d_X_days_0 1 rfl ?_
  refine z_iconst (v := (iI 1)) hc d_X_days_1 (by decide) ?_
  refine z_bipush (v := (iI 60)) hc d_X_days_2 (by decide) ?_
  obtain ⟨v1, σ2, h3, hf⟩ := bd2 hf
  refine cz_X_85 hc d_X_days_4 (by decide)  h3 (Nat.le_of_ble_eq_true rfl) ?_
  refine z_if_ne (tgt := 17) hc d_X_days_7 (by decide) (fun hq => ?_) (fun hq => ?_)
  · have hf := ifn hq hf
    refine z_aload_n hc d_X_days_17 0 rfl ?_
    refine gf_X_50 hc d_X_days_18  ?_
    refine gf_X_109 hc d_X_days_21 (by decide) ?_
    refine z_sipush (v := (iI 9999)) hc d_X_days_24 (by decide) ?_
    refine z_iload_n hc d_X_days_27 1 rfl ?_
    refine z_isub hc d_X_days_28 ?_
    refine z_icmp_le (tgt := 39) hc d_X_days_29 (by decide) (fun hq => ?_) (fun hq => ?_)
    · have hf := ifp hq hf
      refine z_aload_n hc d_X_days_39 0 rfl ?_
      refine gf_X_50 hc d_X_days_40  ?_
      refine z_iload_n hc d_X_days_43 1 rfl ?_
      obtain ⟨v4, σ5, h6, hf⟩ := bd2 hf
      refine cz_X_208 hc d_X_days_44 (by decide) (by decide) h6 (Nat.le_of_ble_eq_true rfl) ?_
      refine z_aload_n hc d_X_days_47 0 rfl ?_
      refine gf_X_50 hc d_X_days_48  ?_
      obtain ⟨v7, σ8, h9, hf⟩ := bd2 hf
      refine cz_X_119 hc d_X_days_51 (by decide) (by decide) h9 (Nat.le_of_ble_eq_true rfl) ?_
      exact z_iret hc d_X_days_54 (rI hf hρ)
    · have hf := ifn hq hf
      refine z_aload_n hc d_X_days_32 0 rfl ?_
      refine z_ldc (v := (iI (-1000000005))) hc co_X_181 d_X_days_33 ?_
      obtain ⟨v10, σ11, h12, hf⟩ := bd2 hf
      refine cz_X_90 hc d_X_days_35 (by decide)  h12 (Nat.le_of_ble_eq_true rfl) ?_
      exact z_iret hc d_X_days_38 (rI hf hρ)
  · have hf := ifp hq hf
    refine z_aload_n hc d_X_days_10 0 rfl ?_
    refine z_ldc (v := (iI (-1000000001))) hc co_X_89 d_X_days_11 ?_
    obtain ⟨v13, σ14, h15, hf⟩ := bd2 hf
    refine cz_X_90 hc d_X_days_13 (by decide)  h15 (Nat.le_of_ble_eq_true rfl) ?_
    exact z_iret hc d_X_days_16 (rI hf hρ)
theorem vl_X_226 : VL R_X 226 y_Rug_passDay c_Rug_passDay 2 none 1 := ⟨tb3 96 (by decide +kernel) (by decide +kernel), tb3 78 (by decide +kernel) (by decide +kernel), tb3 79 (by decide +kernel) (by decide +kernel), tb1 9 (by decide +kernel) (by decide +kernel), k_Rug_passDay, by decide, by decide, by decide +kernel, by decide⟩
theorem cz_X_226 {x : Cx} {g : Gv} {cc : ByteArray} {nL d pc : Nat} {ret : Option FieldType} {ρ : Option Value × Sg} {L : List (Nat × Value)} {st : List Value} {σ : Sg} (hc : Zc x g cc R_X nL ret d) (hd : decode cc pc = .ok (.invokevirtual 226, 3)) (hdd : 4 ≤ d) {w0 : Nat} {c0 : Nat} {x1 : Int32} (hv0 : okR w0 c0) {v : Unit} {σ1 : Sg} (hf : f_Rug_passDay w0 c0 x1 σ = some (v, σ1)) (hst : (st.map (fun v => v.category)).sum ≤ 8) (k : Z x g nL ρ (pc + 3) L (st) σ1) : Z x g nL ρ pc L (.int x1 :: .ref (gAd g (2, w0, c0)) :: st) σ := z_callV (ci := 2) (As := [.int x1]) hc hd vl_X_226 hdd (2, w0, c0) (dm_Rug hv0) rfl rfl (ok_Rug_passDay g w0 c0 x1 hv0 σ (v, σ1) hf) rfl rfl hst rfl k
def b_X_passProbe_2 (x1 : Int32) (x2 : Int32) (σ : Sg) : Option ((Int32 × Sg) ⊕ (Sg)) :=
  (if x1 ≤ x2 then some (.inr σ) else b2 (f_World_wetAhead 0 x2 σ) (fun v1 σ2 => b2 (f_Rug_passDay 3 0 v1 σ2) (fun v4 σ5 => some (.inl (x2 + (iI 1), σ5)))))
theorem sb_X_passProbe_2 {x : Cx} {g : Gv} {ρ : Option Value × Sg} (hc : Zc x g c_X_passProbe R_X 3 none 4) (x1 : Int32) (x2 : Int32) (σ : Sg) (r : (Int32 × Sg) ⊕ (Sg)) (hf : b_X_passProbe_2 x1 x2 σ = some r) (hi : ∀ a', r = .inl a' → Z x g 3 ρ 2 [(0, .ref (gAd g (0, 0, 0))), (1, .int x1), (2, .int a'.1)] [] a'.2) (he0 : ∀ b, r = .inr b → Z x g 3 ρ 28 [] [] b) : Z x g 3 ρ 2 [(0, .ref (gAd g (0, 0, 0))), (1, .int x1), (2, .int x2)] [] σ := by
  unfold b_X_passProbe_2 at hf
  refine z_iload_n hc d_X_passProbe_2 2 rfl ?_
  refine z_iload_n hc d_X_passProbe_3 1 rfl ?_
  refine z_icmp_ge (tgt := 28) hc d_X_passProbe_4 (by decide) (fun hq => ?_) (fun hq => ?_)
  · have hf := ifp hq hf
    refine z_sub [] (L' := []) rfl ?_
    exact he0 σ (Option.some.inj hf).symm
  · have hf := ifn hq hf
    refine z_aload_n hc d_X_passProbe_7 0 rfl ?_
    refine gf_X_63 hc d_X_passProbe_8  ?_
    refine z_aload_n hc d_X_passProbe_11 0 rfl ?_
    refine gf_X_50 hc d_X_passProbe_12  ?_
    refine z_iload_n hc d_X_passProbe_15 2 rfl ?_
    obtain ⟨v1, σ2, h3, hf⟩ := bd2 hf
    refine cz_X_113 hc d_X_passProbe_16 (by decide) (by decide) h3 (Nat.le_of_ble_eq_true rfl) ?_
    obtain ⟨v4, σ5, h6, hf⟩ := bd2 hf
    refine cz_X_226 hc d_X_passProbe_19 (by decide) okR_probe h6 (Nat.le_of_ble_eq_true rfl) ?_
    refine z_iinc (v := x2 + (iI 1)) (L' := [(2, .int (x2 + (iI 1))), (0, .ref (gAd g (0, 0, 0))), (1, .int x1)]) hc d_X_passProbe_22 2 rfl rfl (by decide) rfl ?_
    refine z_goto (tgt := 2) hc d_X_passProbe_25 (by decide) ?_
    refine z_sub [1, 2, 0] (L' := [(0, .ref (gAd g (0, 0, 0))), (1, .int x1), (2, .int (x2 + (iI 1)))]) rfl ?_
    exact hi (x2 + (iI 1), σ5) (Option.some.inj hf).symm
def f_X_passProbe (x1 : Int32) (σ : Sg) : Option (Unit × Sg) :=
  Option.bind (lp (fun a => b_X_passProbe_2 x1 a.1 a.2) FU ((iI 0), σ)) (fun b9 => some ((), b9))
theorem ok_X_passProbe (g : Gv) (x1 : Int32) (σ : Sg) (r : Unit × Sg) (hf : f_X_passProbe x1 σ = some r) : Ok g y_X_passProbe c_X_passProbe 3 none 4 [.ref (gAd g (0, 0, 0)), .int x1] σ (none, r.2) := by
  unfold f_X_passProbe at hf
  refine Ok.of [(0, .ref (gAd g (0, 0, 0))), (1, .int x1)] (by decide) (Nat.le_of_ble_eq_true rfl) rfl ?_
  intro x hc
  have hc : Zc x g c_X_passProbe R_X 3 none 4 := hc
  obtain ⟨ρ, hρ⟩ : ∃ ρ : Option Value × Sg, ρ = (none, r.2) := ⟨_, rfl⟩
  rw [← hρ]
  refine z_iconst (v := (iI 0)) hc d_X_passProbe_0 (by decide) ?_
  refine z_istore_n (L' := [(2, .int (iI 0)), (0, .ref (gAd g (0, 0, 0))), (1, .int x1)]) hc d_X_passProbe_1 (by decide) rfl ?_
  refine z_sub [1, 2, 0] (L' := [(0, .ref (gAd g (0, 0, 0))), (1, .int x1), (2, .int (iI 0))]) rfl ?_
  obtain ⟨σ8, hl10, hf⟩ := bd hf
  try dsimp only at hf
  refine lp_walk (α := (Int32 × Sg)) (β := (Sg)) (body := (fun a : (Int32 × Sg) => b_X_passProbe_2 x1 a.1 a.2)) (In := (fun a : (Int32 × Sg) => Z x g 3 ρ 2 [(0, .ref (gAd g (0, 0, 0))), (1, .int x1), (2, .int a.1)] [] a.2)) (Out := (fun b => Z x g 3 ρ 28 [] [] b)) (fun a r hb hi ho => sb_X_passProbe_2 hc x1  a.1 a.2 r hb hi (fun b e => ho _ e)) FU ((iI 0), σ) _ hl10 ?_
  exact z_vret hc d_X_passProbe_28 (rV hf hρ)
theorem vl_X_212 : VL R_X 212 y_Rug_become c_Rug_become 2 none 1 := ⟨tb3 88 (by decide +kernel) (by decide +kernel), tb3 89 (by decide +kernel) (by decide +kernel), tb3 90 (by decide +kernel) (by decide +kernel), tb1 9 (by decide +kernel) (by decide +kernel), k_Rug_become, by decide, by decide, by decide +kernel, by decide⟩
theorem cz_X_212 {x : Cx} {g : Gv} {cc : ByteArray} {nL d pc : Nat} {ret : Option FieldType} {ρ : Option Value × Sg} {L : List (Nat × Value)} {st : List Value} {σ : Sg} (hc : Zc x g cc R_X nL ret d) (hd : decode cc pc = .ok (.invokevirtual 212, 3)) (hdd : 1 ≤ d) {w0 : Nat} {c0 : Nat} {w1 : Nat} {c1 : Nat} (hv0 : okR w0 c0) (hv1 : okR w1 c1) {v : Unit} {σ1 : Sg} (hf : f_Rug_become w0 c0 w1 c1 σ = some (v, σ1)) (hst : (st.map (fun v => v.category)).sum ≤ 8) (k : Z x g nL ρ (pc + 3) L (st) σ1) : Z x g nL ρ pc L (.ref (gAd g (2, w1, c1)) :: .ref (gAd g (2, w0, c0)) :: st) σ := z_callV (ci := 2) (As := [.ref (gAd g (2, w1, c1))]) hc hd vl_X_212 hdd (2, w0, c0) (dm_Rug hv0) rfl rfl (ok_Rug_become g w0 c0 w1 c1 hv0 hv1 σ (v, σ1) hf) rfl rfl hst rfl k
theorem vl_X_216 : VL R_X 216 y_X_passProbe c_X_passProbe 3 none 1 := ⟨tb3 92 (by decide +kernel) (by decide +kernel), tb3 94 (by decide +kernel) (by decide +kernel), tbp 3 (by decide +kernel), tb1 1 (by decide +kernel) (by decide +kernel), k_X_passProbe, by decide, by decide, by decide +kernel, by decide⟩
theorem cz_X_216 {x : Cx} {g : Gv} {cc : ByteArray} {nL d pc : Nat} {ret : Option FieldType} {ρ : Option Value × Sg} {L : List (Nat × Value)} {st : List Value} {σ : Sg} (hc : Zc x g cc R_X nL ret d) (hd : decode cc pc = .ok (.invokevirtual 216, 3)) (hdd : 5 ≤ d) {x1 : Int32} {v : Unit} {σ1 : Sg} (hf : f_X_passProbe x1 σ = some (v, σ1)) (hst : (st.map (fun v => v.category)).sum ≤ 8) (k : Z x g nL ρ (pc + 3) L (st) σ1) : Z x g nL ρ pc L (.int x1 :: .ref (gAd g (0, 0, 0)) :: st) σ := z_callV (ci := 10) (As := [.int x1]) hc hd vl_X_216 hdd (0, 0, 0) (dm_X) rfl rfl (ok_X_passProbe g x1 σ (v, σ1) hf) rfl rfl hst rfl k
def j_X_on_28 (σ : Sg) : Option (Int32 × Sg) :=
  b2 (f_X_found (iI (-1000000001)) σ) (fun v4 σ5 => some (v4, σ5))
theorem sj_X_on_28 {x : Cx} {g : Gv} {ρ : Option Value × Sg} (hc : Zc x g c_X_on R_X 4 (some .int) 5) (σ : Sg) (r : Int32 × Sg) (hf : j_X_on_28 σ = some r) (hρ : ρ = (some (.int r.1), r.2)) : Z x g 4 ρ 28 [(0, .ref (gAd g (0, 0, 0)))] [] σ := by
  unfold j_X_on_28 at hf
  refine z_aload_n hc d_X_on_28 0 rfl ?_
  refine z_ldc (v := (iI (-1000000001))) hc co_X_89 d_X_on_29 ?_
  obtain ⟨v4, σ5, h6, hf⟩ := bd2 hf
  refine cz_X_90 hc d_X_on_31 (by decide)  h6 (Nat.le_of_ble_eq_true rfl) ?_
  exact z_iret hc d_X_on_34 (rI hf hρ)
def f_X_on (x1 : Int32) (x2 : Int32) (x3 : Int32) (σ : Sg) : Option (Int32 × Sg) :=
  b2 (f_X_isRug x1 σ) (fun v1 σ2 => (if v1 = (iI 0) then j_X_on_28   σ2 else b2 (f_X_within x2 (iI 0) (iI 200) σ2) (fun v7 σ8 => (if v7 = (iI 0) then j_X_on_28   σ8 else b2 (f_X_within x3 (iI 0) (iI 2) σ8) (fun v10 σ11 => (if v10 = (iI 0) then j_X_on_28   σ11 else Option.bind (rd x1 8) (fun j13 => b2 (f_Rug_become 3 0 0 j13 σ11) (fun v15 σ16 => b2 (f_X_passProbe x2 σ16) (fun v18 σ19 => (if x3 = (iI 0) then some (σ19.1 2 3 0 3, σ19) else (if x3 = (iI 1) then some (σ19.1 2 3 0 4, σ19) else some (σ19.1 2 3 0 5, σ19))))))))))))
theorem ok_X_on (g : Gv) (x1 : Int32) (x2 : Int32) (x3 : Int32) (σ : Sg) (r : Int32 × Sg) (hf : f_X_on x1 x2 x3 σ = some r) : Ok g y_X_on c_X_on 4 (some .int) 5 [.ref (gAd g (0, 0, 0)), .int x1, .int x2, .int x3] σ (some (.int r.1), r.2) := by
  unfold f_X_on at hf
  refine Ok.of [(0, .ref (gAd g (0, 0, 0))), (1, .int x1), (2, .int x2), (3, .int x3)] (by decide) (Nat.le_of_ble_eq_true rfl) rfl ?_
  intro x hc
  have hc : Zc x g c_X_on R_X 4 (some .int) 5 := hc
  obtain ⟨ρ, hρ⟩ : ∃ ρ : Option Value × Sg, ρ = (some (.int r.1), r.2) := ⟨_, rfl⟩
  rw [← hρ]
  refine z_aload_n hc d_X_on_0 0 rfl ?_
  refine z_iload_n hc d_X_on_1 1 rfl ?_
  obtain ⟨v1, σ2, h3, hf⟩ := bd2 hf
  refine cz_X_131 hc d_X_on_2 (by decide)  h3 (Nat.le_of_ble_eq_true rfl) ?_
  refine z_if_eq (tgt := 28) hc d_X_on_5 (by decide) (fun hq => ?_) (fun hq => ?_)
  · have hf := ifp hq hf
    refine z_sub [0] (L' := [(0, .ref (gAd g (0, 0, 0)))]) rfl ?_
    exact sj_X_on_28 hc     σ2 _ hf hρ
  · have hf := ifn hq hf
    refine z_iload_n hc d_X_on_8 2 rfl ?_
    refine z_iconst (v := (iI 0)) hc d_X_on_9 (by decide) ?_
    refine z_sipush (v := (iI 200)) hc d_X_on_10 (by decide) ?_
    obtain ⟨v7, σ8, h9, hf⟩ := bd2 hf
    refine cz_X_85 hc d_X_on_13 (by decide)  h9 (Nat.le_of_ble_eq_true rfl) ?_
    refine z_if_eq (tgt := 28) hc d_X_on_16 (by decide) (fun hq => ?_) (fun hq => ?_)
    · have hf := ifp hq hf
      refine z_sub [0] (L' := [(0, .ref (gAd g (0, 0, 0)))]) rfl ?_
      exact sj_X_on_28 hc     σ8 _ hf hρ
    · have hf := ifn hq hf
      refine z_iload_n hc d_X_on_19 3 rfl ?_
      refine z_iconst (v := (iI 0)) hc d_X_on_20 (by decide) ?_
      refine z_iconst (v := (iI 2)) hc d_X_on_21 (by decide) ?_
      obtain ⟨v10, σ11, h12, hf⟩ := bd2 hf
      refine cz_X_85 hc d_X_on_22 (by decide)  h12 (Nat.le_of_ble_eq_true rfl) ?_
      refine z_if_ne (tgt := 35) hc d_X_on_25 (by decide) (fun hq => ?_) (fun hq => ?_)
      · have hf := ifn hq hf
        refine z_aload_n hc d_X_on_35 0 rfl ?_
        refine gf_X_63 hc d_X_on_36  ?_
        refine z_aload_n hc d_X_on_39 0 rfl ?_
        refine gf_X_50 hc d_X_on_40  ?_
        refine gf_X_135 hc d_X_on_43 (by decide) ?_
        refine z_iload_n hc d_X_on_46 1 rfl ?_
        obtain ⟨j13, hj14, hf⟩ := bd hf
        refine ald_rugs hc d_X_on_47 (by decide) hj14 ?_
        obtain ⟨v15, σ16, h17, hf⟩ := bd2 hf
        refine cz_X_212 hc d_X_on_48 (by decide) okR_probe (okR_of (by decide) (rd_lt hj14)) h17 (Nat.le_of_ble_eq_true rfl) ?_
        refine z_aload_n hc d_X_on_51 0 rfl ?_
        refine z_iload_n hc d_X_on_52 2 rfl ?_
        obtain ⟨v18, σ19, h20, hf⟩ := bd2 hf
        refine cz_X_216 hc d_X_on_53 (by decide)  h20 (Nat.le_of_ble_eq_true rfl) ?_
        refine z_iload_n hc d_X_on_56 3 rfl ?_
        refine z_if_ne (tgt := 68) hc d_X_on_57 (by decide) (fun hq => ?_) (fun hq => ?_)
        · have hf := ifn hq hf
          refine z_iload_n hc d_X_on_68 3 rfl ?_
          refine z_iconst (v := (iI 1)) hc d_X_on_69 (by decide) ?_
          refine z_icmp_ne (tgt := 83) hc d_X_on_70 (by decide) (fun hq => ?_) (fun hq => ?_)
          · have hf := ifn hq hf
            refine z_aload_n hc d_X_on_83 0 rfl ?_
            refine gf_X_63 hc d_X_on_84  ?_
            refine gf_X_149 hc d_X_on_87 okR_probe ?_
            exact z_iret hc d_X_on_90 (rI hf hρ)
          · have hf := ifp hq hf
            refine z_aload_n hc d_X_on_73 0 rfl ?_
            refine gf_X_63 hc d_X_on_74  ?_
            refine gf_X_205 hc d_X_on_77 okR_probe ?_
            refine z_goto (tgt := 90) hc d_X_on_80 (by decide) ?_
            exact z_iret hc d_X_on_90 (rI hf hρ)
        · have hf := ifp hq hf
          refine z_aload_n hc d_X_on_60 0 rfl ?_
          refine gf_X_63 hc d_X_on_61  ?_
          refine gf_X_178 hc d_X_on_64 okR_probe ?_
          exact z_iret hc d_X_on_67 (rI hf hρ)
      · have hf := ifp hq hf
        refine z_sub [0] (L' := [(0, .ref (gAd g (0, 0, 0)))]) rfl ?_
        exact sj_X_on_28 hc     σ11 _ hf hρ
theorem vl_X_219 : VL R_X 219 y_World_become c_World_become 3 none 1 := ⟨tb3 101 (by decide +kernel) (by decide +kernel), tb3 102 (by decide +kernel) (by decide +kernel), tb3 103 (by decide +kernel) (by decide +kernel), tb1 8 (by decide +kernel) (by decide +kernel), k_World_become, by decide, by decide, by decide +kernel, by decide⟩
theorem cz_X_219 {x : Cx} {g : Gv} {cc : ByteArray} {nL d pc : Nat} {ret : Option FieldType} {ρ : Option Value × Sg} {L : List (Nat × Value)} {st : List Value} {σ : Sg} (hc : Zc x g cc R_X nL ret d) (hd : decode cc pc = .ok (.invokevirtual 219, 3)) (hdd : 2 ≤ d) {w0 : Nat} {w1 : Nat} (hv0 : w0 < 3) (hv1 : w1 < 3) {v : Unit} {σ1 : Sg} (hf : f_World_become w0 w1 σ = some (v, σ1)) (hst : (st.map (fun v => v.category)).sum ≤ 8) (k : Z x g nL ρ (pc + 3) L (st) σ1) : Z x g nL ρ pc L (.ref (gAd g (1, w1, 0)) :: .ref (gAd g (1, w0, 0)) :: st) σ := z_callV (ci := 9) (As := [.ref (gAd g (1, w1, 0))]) hc hd vl_X_219 hdd (1, w0, 0) (dm_World hv0) rfl rfl (ok_World_become g w0 w1 hv0 hv1 σ (v, σ1) hf) rfl rfl hst rfl k
def j_X_ownsOn_20 (σ : Sg) : Option (Int32 × Sg) :=
  b2 (f_X_found (iI (-1000000001)) σ) (fun v4 σ5 => some (v4, σ5))
theorem sj_X_ownsOn_20 {x : Cx} {g : Gv} {ρ : Option Value × Sg} (hc : Zc x g c_X_ownsOn R_X 3 (some .int) 6) (σ : Sg) (r : Int32 × Sg) (hf : j_X_ownsOn_20 σ = some r) (hρ : ρ = (some (.int r.1), r.2)) : Z x g 3 ρ 20 [(0, .ref (gAd g (0, 0, 0)))] [] σ := by
  unfold j_X_ownsOn_20 at hf
  refine z_aload_n hc d_X_ownsOn_20 0 rfl ?_
  refine z_ldc (v := (iI (-1000000001))) hc co_X_89 d_X_ownsOn_21 ?_
  obtain ⟨v4, σ5, h6, hf⟩ := bd2 hf
  refine cz_X_90 hc d_X_ownsOn_23 (by decide)  h6 (Nat.le_of_ble_eq_true rfl) ?_
  exact z_iret hc d_X_ownsOn_26 (rI hf hρ)
def f_X_ownsOn (x1 : Int32) (x2 : Int32) (σ : Sg) : Option (Int32 × Sg) :=
  b2 (f_X_within x1 (iI (-1)) (iI 3) σ) (fun v1 σ2 => (if v1 = (iI 0) then j_X_ownsOn_20   σ2 else b2 (f_X_within x2 (iI 0) (iI 200) σ2) (fun v7 σ8 => (if v7 = (iI 0) then j_X_ownsOn_20   σ8 else b2 (f_World_become 2 0 σ8) (fun v10 σ11 => b2 (f_World_passDays 2 x2 σ11) (fun v13 σ14 => b2 (f_World_yardsOf 2 x1 σ14) (fun v16 σ17 => some (v16, σ17))))))))
theorem ok_X_ownsOn (g : Gv) (x1 : Int32) (x2 : Int32) (σ : Sg) (r : Int32 × Sg) (hf : f_X_ownsOn x1 x2 σ = some r) : Ok g y_X_ownsOn c_X_ownsOn 3 (some .int) 6 [.ref (gAd g (0, 0, 0)), .int x1, .int x2] σ (some (.int r.1), r.2) := by
  unfold f_X_ownsOn at hf
  refine Ok.of [(0, .ref (gAd g (0, 0, 0))), (1, .int x1), (2, .int x2)] (by decide) (Nat.le_of_ble_eq_true rfl) rfl ?_
  intro x hc
  have hc : Zc x g c_X_ownsOn R_X 3 (some .int) 6 := hc
  obtain ⟨ρ, hρ⟩ : ∃ ρ : Option Value × Sg, ρ = (some (.int r.1), r.2) := ⟨_, rfl⟩
  rw [← hρ]
  refine z_iload_n hc d_X_ownsOn_0 1 rfl ?_
  refine z_iconst (v := (iI (-1))) hc d_X_ownsOn_1 (by decide) ?_
  refine z_iconst (v := (iI 3)) hc d_X_ownsOn_2 (by decide) ?_
  obtain ⟨v1, σ2, h3, hf⟩ := bd2 hf
  refine cz_X_85 hc d_X_ownsOn_3 (by decide)  h3 (Nat.le_of_ble_eq_true rfl) ?_
  refine z_if_eq (tgt := 20) hc d_X_ownsOn_6 (by decide) (fun hq => ?_) (fun hq => ?_)
  · have hf := ifp hq hf
    refine z_sub [0] (L' := [(0, .ref (gAd g (0, 0, 0)))]) rfl ?_
    exact sj_X_ownsOn_20 hc     σ2 _ hf hρ
  · have hf := ifn hq hf
    refine z_iload_n hc d_X_ownsOn_9 2 rfl ?_
    refine z_iconst (v := (iI 0)) hc d_X_ownsOn_10 (by decide) ?_
    refine z_sipush (v := (iI 200)) hc d_X_ownsOn_11 (by decide) ?_
    obtain ⟨v7, σ8, h9, hf⟩ := bd2 hf
    refine cz_X_85 hc d_X_ownsOn_14 (by decide)  h9 (Nat.le_of_ble_eq_true rfl) ?_
    refine z_if_ne (tgt := 27) hc d_X_ownsOn_17 (by decide) (fun hq => ?_) (fun hq => ?_)
    · have hf := ifn hq hf
      refine z_aload_n hc d_X_ownsOn_27 0 rfl ?_
      refine gf_X_57 hc d_X_ownsOn_28  ?_
      refine z_aload_n hc d_X_ownsOn_31 0 rfl ?_
      refine gf_X_50 hc d_X_ownsOn_32  ?_
      obtain ⟨v10, σ11, h12, hf⟩ := bd2 hf
      refine cz_X_219 hc d_X_ownsOn_35 (by decide) (by decide) (by decide) h12 (Nat.le_of_ble_eq_true rfl) ?_
      refine z_aload_n hc d_X_ownsOn_38 0 rfl ?_
      refine gf_X_57 hc d_X_ownsOn_39  ?_
      refine z_iload_n hc d_X_ownsOn_42 2 rfl ?_
      obtain ⟨v13, σ14, h15, hf⟩ := bd2 hf
      refine cz_X_208 hc d_X_ownsOn_43 (by decide) (by decide) h15 (Nat.le_of_ble_eq_true rfl) ?_
      refine z_aload_n hc d_X_ownsOn_46 0 rfl ?_
      refine gf_X_57 hc d_X_ownsOn_47  ?_
      refine z_iload_n hc d_X_ownsOn_50 1 rfl ?_
      obtain ⟨v16, σ17, h18, hf⟩ := bd2 hf
      refine cz_X_106 hc d_X_ownsOn_51 (by decide) (by decide) h18 (Nat.le_of_ble_eq_true rfl) ?_
      exact z_iret hc d_X_ownsOn_54 (rI hf hρ)
    · have hf := ifp hq hf
      refine z_sub [0] (L' := [(0, .ref (gAd g (0, 0, 0)))]) rfl ?_
      exact sj_X_ownsOn_20 hc     σ8 _ hf hρ
def b_X_daysProbeLies_2 (x1 : Int32) (σ : Sg) : Option ((Int32 × Sg) ⊕ ((Int32 × Sg) ⊕ (Sg))) :=
  (if (iI 400) < x1 then some (.inr (.inr σ)) else b2 (f_Rug_isOut 3 0 σ) (fun v1 σ2 => (if v1 = (iI 0) then some (.inr (.inl (x1, σ2))) else b2 (f_World_wetAhead 0 x1 σ2) (fun v4 σ5 => b2 (f_Rug_passDay 3 0 v4 σ5) (fun v7 σ8 => some (.inl (x1 + (iI 1), σ8)))))))
theorem sb_X_daysProbeLies_2 {x : Cx} {g : Gv} {ρ : Option Value × Sg} (hc : Zc x g c_X_daysProbeLies R_X 2 (some .int) 4) (x1 : Int32) (σ : Sg) (r : (Int32 × Sg) ⊕ ((Int32 × Sg) ⊕ (Sg))) (hf : b_X_daysProbeLies_2 x1 σ = some r) (hi : ∀ a', r = .inl a' → Z x g 2 ρ 2 [(0, .ref (gAd g (0, 0, 0))), (1, .int a'.1)] [] a'.2) (he0 : ∀ b, r = .inr (.inl b) → Z x g 2 ρ 19 [(1, .int b.1)] [] b.2) (he1 : ∀ b, r = .inr (.inr b) → Z x g 2 ρ 42 [] [] b) : Z x g 2 ρ 2 [(0, .ref (gAd g (0, 0, 0))), (1, .int x1)] [] σ := by
  unfold b_X_daysProbeLies_2 at hf
  refine z_iload_n hc d_X_daysProbeLies_2 1 rfl ?_
  refine z_sipush (v := (iI 400)) hc d_X_daysProbeLies_3 (by decide) ?_
  refine z_icmp_gt (tgt := 42) hc d_X_daysProbeLies_6 (by decide) (fun hq => ?_) (fun hq => ?_)
  · have hf := ifp hq hf
    refine z_sub [] (L' := []) rfl ?_
    exact he1 σ (Option.some.inj hf).symm
  · have hf := ifn hq hf
    refine z_aload_n hc d_X_daysProbeLies_9 0 rfl ?_
    refine gf_X_63 hc d_X_daysProbeLies_10  ?_
    obtain ⟨v1, σ2, h3, hf⟩ := bd2 hf
    refine cz_X_189 hc d_X_daysProbeLies_13 (by decide) okR_probe h3 (Nat.le_of_ble_eq_true rfl) ?_
    refine z_if_ne (tgt := 21) hc d_X_daysProbeLies_16 (by decide) (fun hq => ?_) (fun hq => ?_)
    · have hf := ifn hq hf
      refine z_aload_n hc d_X_daysProbeLies_21 0 rfl ?_
      refine gf_X_63 hc d_X_daysProbeLies_22  ?_
      refine z_aload_n hc d_X_daysProbeLies_25 0 rfl ?_
      refine gf_X_50 hc d_X_daysProbeLies_26  ?_
      refine z_iload_n hc d_X_daysProbeLies_29 1 rfl ?_
      obtain ⟨v4, σ5, h6, hf⟩ := bd2 hf
      refine cz_X_113 hc d_X_daysProbeLies_30 (by decide) (by decide) h6 (Nat.le_of_ble_eq_true rfl) ?_
      obtain ⟨v7, σ8, h9, hf⟩ := bd2 hf
      refine cz_X_226 hc d_X_daysProbeLies_33 (by decide) okR_probe h9 (Nat.le_of_ble_eq_true rfl) ?_
      refine z_iinc (v := x1 + (iI 1)) (L' := [(1, .int (x1 + (iI 1))), (0, .ref (gAd g (0, 0, 0)))]) hc d_X_daysProbeLies_36 1 rfl rfl (by decide) rfl ?_
      refine z_goto (tgt := 2) hc d_X_daysProbeLies_39 (by decide) ?_
      refine z_sub [1, 0] (L' := [(0, .ref (gAd g (0, 0, 0))), (1, .int (x1 + (iI 1)))]) rfl ?_
      exact hi (x1 + (iI 1), σ8) (Option.some.inj hf).symm
    · have hf := ifp hq hf
      refine z_sub [1] (L' := [(1, .int x1)]) rfl ?_
      exact he0 (x1, σ2) (Option.some.inj hf).symm
def f_X_daysProbeLies (σ : Sg) : Option (Int32 × Sg) :=
  Option.bind (lp (fun a => b_X_daysProbeLies_2  a.1 a.2) FU ((iI 0), σ)) (fun z => Sum.elim (fun b14 => some (b14.1, b14.2)) (fun b15 => some ((iI 401), b15)) z)
theorem ok_X_daysProbeLies (g : Gv) (σ : Sg) (r : Int32 × Sg) (hf : f_X_daysProbeLies σ = some r) : Ok g y_X_daysProbeLies c_X_daysProbeLies 2 (some .int) 4 [.ref (gAd g (0, 0, 0))] σ (some (.int r.1), r.2) := by
  unfold f_X_daysProbeLies at hf
  refine Ok.of [(0, .ref (gAd g (0, 0, 0)))] (by decide) (Nat.le_of_ble_eq_true rfl) rfl ?_
  intro x hc
  have hc : Zc x g c_X_daysProbeLies R_X 2 (some .int) 4 := hc
  obtain ⟨ρ, hρ⟩ : ∃ ρ : Option Value × Sg, ρ = (some (.int r.1), r.2) := ⟨_, rfl⟩
  rw [← hρ]
  refine z_iconst (v := (iI 0)) hc d_X_daysProbeLies_0 (by decide) ?_
  refine z_istore_n (L' := [(1, .int (iI 0)), (0, .ref (gAd g (0, 0, 0)))]) hc d_X_daysProbeLies_1 (by decide) rfl ?_
  refine z_sub [1, 0] (L' := [(0, .ref (gAd g (0, 0, 0))), (1, .int (iI 0))]) rfl ?_
  obtain ⟨q10, hl16, hf⟩ := bd hf
  refine lp_walk (α := (Int32 × Sg)) (β := ((Int32 × Sg) ⊕ (Sg))) (body := (fun a : (Int32 × Sg) => b_X_daysProbeLies_2  a.1 a.2)) (In := (fun a : (Int32 × Sg) => Z x g 2 ρ 2 [(0, .ref (gAd g (0, 0, 0))), (1, .int a.1)] [] a.2)) (Out := (Sum.elim (fun b => Z x g 2 ρ 19 [(1, .int b.1)] [] b.2) (fun b => Z x g 2 ρ 42 [] [] b))) (fun a r hb hi ho => sb_X_daysProbeLies_2 hc   a.1 a.2 r hb hi (fun b e => ho _ e) (fun b e => ho _ e)) FU ((iI 0), σ) _ hl16 ?_
  rcases q10 with ⟨y11, σ12⟩ | q10
  · try dsimp only [Sum.elim_inl, Sum.elim_inr] at hf
    try dsimp only [Sum.elim_inl, Sum.elim_inr]
    refine z_iload_n hc d_X_daysProbeLies_19 0 rfl ?_
    exact z_iret hc d_X_daysProbeLies_20 (rI hf hρ)
  try dsimp only [Sum.elim_inl, Sum.elim_inr] at hf
  try dsimp only [Sum.elim_inl, Sum.elim_inr]
  · obtain ⟨σ13, rfl⟩ : ∃ z, z = q10 := ⟨_, rfl⟩
    try dsimp only [Sum.elim_inl, Sum.elim_inr] at hf
    try dsimp only [Sum.elim_inl, Sum.elim_inr]
    refine z_sipush (v := (iI 401)) hc d_X_daysProbeLies_42 (by decide) ?_
    exact z_iret hc d_X_daysProbeLies_45 (rI hf hρ)
theorem vl_X_222 : VL R_X 222 y_X_daysProbeLies c_X_daysProbeLies 2 (some .int) 0 := ⟨tb3 113 (by decide +kernel) (by decide +kernel), tb3 115 (by decide +kernel) (by decide +kernel), tbp 4 (by decide +kernel), tb1 1 (by decide +kernel) (by decide +kernel), k_X_daysProbeLies, by decide, by decide, by decide +kernel, by decide⟩
theorem cz_X_222 {x : Cx} {g : Gv} {cc : ByteArray} {nL d pc : Nat} {ret : Option FieldType} {ρ : Option Value × Sg} {L : List (Nat × Value)} {st : List Value} {σ : Sg} (hc : Zc x g cc R_X nL ret d) (hd : decode cc pc = .ok (.invokevirtual 222, 3)) (hdd : 5 ≤ d) {v : Int32} {σ1 : Sg} (hf : f_X_daysProbeLies σ = some (v, σ1)) (hst : (st.map (fun v => v.category)).sum ≤ 8) (k : Z x g nL ρ (pc + 3) L (.int v :: st) σ1) : Z x g nL ρ pc L (.ref (gAd g (0, 0, 0)) :: st) σ := z_callV (ci := 10) (As := []) hc hd vl_X_222 hdd (0, 0, 0) (dm_X) rfl rfl (ok_X_daysProbeLies g σ (v, σ1) hf) rfl rfl hst rfl k
def f_X_ends (x1 : Int32) (σ : Sg) : Option (Int32 × Sg) :=
  b2 (f_X_isRug x1 σ) (fun v1 σ2 => (if v1 = (iI 0) then b2 (f_X_found (iI (-1000000001)) σ2) (fun v15 σ16 => some (v15, σ16)) else Option.bind (rd x1 8) (fun j4 => b2 (f_Rug_become 3 0 0 j4 σ2) (fun v6 σ7 => b2 (f_X_daysProbeLies  σ7) (fun v9 σ10 => (if v9 ≤ (iI 400) then some (v9, σ10) else b2 (f_X_found (iI (-1000000004)) σ10) (fun v12 σ13 => some (v12, σ13))))))))
theorem ok_X_ends (g : Gv) (x1 : Int32) (σ : Sg) (r : Int32 × Sg) (hf : f_X_ends x1 σ = some r) : Ok g y_X_ends c_X_ends 3 (some .int) 5 [.ref (gAd g (0, 0, 0)), .int x1] σ (some (.int r.1), r.2) := by
  unfold f_X_ends at hf
  refine Ok.of [(0, .ref (gAd g (0, 0, 0))), (1, .int x1)] (by decide) (Nat.le_of_ble_eq_true rfl) rfl ?_
  intro x hc
  have hc : Zc x g c_X_ends R_X 3 (some .int) 5 := hc
  obtain ⟨ρ, hρ⟩ : ∃ ρ : Option Value × Sg, ρ = (some (.int r.1), r.2) := ⟨_, rfl⟩
  rw [← hρ]
  refine z_aload_n hc d_X_ends_0 0 rfl ?_
  refine z_iload_n hc d_X_ends_1 1 rfl ?_
  obtain ⟨v1, σ2, h3, hf⟩ := bd2 hf
  refine cz_X_131 hc d_X_ends_2 (by decide)  h3 (Nat.le_of_ble_eq_true rfl) ?_
  refine z_if_ne (tgt := 15) hc d_X_ends_5 (by decide) (fun hq => ?_) (fun hq => ?_)
  · have hf := ifn hq hf
    refine z_aload_n hc d_X_ends_15 0 rfl ?_
    refine gf_X_63 hc d_X_ends_16  ?_
    refine z_aload_n hc d_X_ends_19 0 rfl ?_
    refine gf_X_50 hc d_X_ends_20  ?_
    refine gf_X_135 hc d_X_ends_23 (by decide) ?_
    refine z_iload_n hc d_X_ends_26 1 rfl ?_
    obtain ⟨j4, hj5, hf⟩ := bd hf
    refine ald_rugs hc d_X_ends_27 (by decide) hj5 ?_
    obtain ⟨v6, σ7, h8, hf⟩ := bd2 hf
    refine cz_X_212 hc d_X_ends_28 (by decide) okR_probe (okR_of (by decide) (rd_lt hj5)) h8 (Nat.le_of_ble_eq_true rfl) ?_
    refine z_aload_n hc d_X_ends_31 0 rfl ?_
    obtain ⟨v9, σ10, h11, hf⟩ := bd2 hf
    refine cz_X_222 hc d_X_ends_32 (by decide)  h11 (Nat.le_of_ble_eq_true rfl) ?_
    refine z_istore_n (L' := [(2, .int v9), (0, .ref (gAd g (0, 0, 0))), (1, .int x1)]) hc d_X_ends_35 (by decide) rfl ?_
    refine z_iload_n hc d_X_ends_36 0 rfl ?_
    refine z_sipush (v := (iI 400)) hc d_X_ends_37 (by decide) ?_
    refine z_icmp_le (tgt := 52) hc d_X_ends_40 (by decide) (fun hq => ?_) (fun hq => ?_)
    · have hf := ifp hq hf
      refine z_iload_n hc d_X_ends_52 0 rfl ?_
      exact z_iret hc d_X_ends_53 (rI hf hρ)
    · have hf := ifn hq hf
      refine z_aload_n hc d_X_ends_43 1 rfl ?_
      refine z_ldc (v := (iI (-1000000004))) hc co_X_225 d_X_ends_44 ?_
      obtain ⟨v12, σ13, h14, hf⟩ := bd2 hf
      refine cz_X_90 hc d_X_ends_46 (by decide)  h14 (Nat.le_of_ble_eq_true rfl) ?_
      refine z_goto (tgt := 53) hc d_X_ends_49 (by decide) ?_
      exact z_iret hc d_X_ends_53 (rI hf hρ)
  · have hf := ifp hq hf
    refine z_aload_n hc d_X_ends_8 0 rfl ?_
    refine z_ldc (v := (iI (-1000000001))) hc co_X_89 d_X_ends_9 ?_
    obtain ⟨v15, σ16, h17, hf⟩ := bd2 hf
    refine cz_X_90 hc d_X_ends_11 (by decide)  h17 (Nat.le_of_ble_eq_true rfl) ?_
    exact z_iret hc d_X_ends_14 (rI hf hρ)
def b_X_bare_33 (x2 : Int32) (σ : Sg) : Option ((Int32 × Sg) ⊕ ((Int32 × Sg) ⊕ (Sg))) :=
  (if (iI 400) < x2 then some (.inr (.inr σ)) else (if (σ.1 2 3 0 3) = (iI 0) then some (.inr (.inl (x2, σ))) else b2 (f_World_wetAhead 0 x2 σ) (fun v9 σ10 => b2 (f_Rug_passDay 3 0 v9 σ10) (fun v12 σ13 => some (.inl (x2 + (iI 1), σ13))))))
theorem sb_X_bare_33 {x : Cx} {g : Gv} {ρ : Option Value × Sg} (hc : Zc x g c_X_bare R_X 3 (some .int) 4) (x2 : Int32) (σ : Sg) (r : (Int32 × Sg) ⊕ ((Int32 × Sg) ⊕ (Sg))) (hf : b_X_bare_33 x2 σ = some r) (hi : ∀ a', r = .inl a' → Z x g 3 ρ 33 [(0, .ref (gAd g (0, 0, 0))), (2, .int a'.1)] [] a'.2) (he0 : ∀ b, r = .inr (.inl b) → Z x g 3 ρ 50 [(2, .int b.1)] [] b.2) (he1 : ∀ b, r = .inr (.inr b) → Z x g 3 ρ 73 [(0, .ref (gAd g (0, 0, 0)))] [] b) : Z x g 3 ρ 33 [(0, .ref (gAd g (0, 0, 0))), (2, .int x2)] [] σ := by
  unfold b_X_bare_33 at hf
  refine z_iload_n hc d_X_bare_33 1 rfl ?_
  refine z_sipush (v := (iI 400)) hc d_X_bare_34 (by decide) ?_
  refine z_icmp_gt (tgt := 73) hc d_X_bare_37 (by decide) (fun hq => ?_) (fun hq => ?_)
  · have hf := ifp hq hf
    refine z_sub [0] (L' := [(0, .ref (gAd g (0, 0, 0)))]) rfl ?_
    exact he1 σ (Option.some.inj hf).symm
  · have hf := ifn hq hf
    refine z_aload_n hc d_X_bare_40 0 rfl ?_
    refine gf_X_63 hc d_X_bare_41  ?_
    refine gf_X_178 hc d_X_bare_44 okR_probe ?_
    refine z_if_ne (tgt := 52) hc d_X_bare_47 (by decide) (fun hq => ?_) (fun hq => ?_)
    · have hf := ifn hq hf
      refine z_aload_n hc d_X_bare_52 0 rfl ?_
      refine gf_X_63 hc d_X_bare_53  ?_
      refine z_aload_n hc d_X_bare_56 0 rfl ?_
      refine gf_X_50 hc d_X_bare_57  ?_
      refine z_iload_n hc d_X_bare_60 1 rfl ?_
      obtain ⟨v9, σ10, h11, hf⟩ := bd2 hf
      refine cz_X_113 hc d_X_bare_61 (by decide) (by decide) h11 (Nat.le_of_ble_eq_true rfl) ?_
      obtain ⟨v12, σ13, h14, hf⟩ := bd2 hf
      refine cz_X_226 hc d_X_bare_64 (by decide) okR_probe h14 (Nat.le_of_ble_eq_true rfl) ?_
      refine z_iinc (v := x2 + (iI 1)) (L' := [(2, .int (x2 + (iI 1))), (0, .ref (gAd g (0, 0, 0)))]) hc d_X_bare_67 1 rfl rfl (by decide) rfl ?_
      refine z_goto (tgt := 33) hc d_X_bare_70 (by decide) ?_
      refine z_sub [1, 0] (L' := [(0, .ref (gAd g (0, 0, 0))), (2, .int (x2 + (iI 1)))]) rfl ?_
      exact hi (x2 + (iI 1), σ13) (Option.some.inj hf).symm
    · have hf := ifp hq hf
      refine z_sub [1] (L' := [(2, .int x2)]) rfl ?_
      exact he0 (x2, σ) (Option.some.inj hf).symm
def f_X_bare (x1 : Int32) (σ : Sg) : Option (Int32 × Sg) :=
  b2 (f_X_isRug x1 σ) (fun v1 σ2 => (if v1 = (iI 0) then b2 (f_X_found (iI (-1000000001)) σ2) (fun v25 σ26 => some (v25, σ26)) else Option.bind (rd x1 8) (fun j4 => b2 (f_Rug_become 3 0 0 j4 σ2) (fun v6 σ7 => Option.bind (lp (fun a => b_X_bare_33  a.1 a.2) FU ((iI 0), σ7)) (fun z => Sum.elim (fun b22 => some (b22.1, b22.2)) (fun b23 => b2 (f_X_found (iI (-1000000004)) b23) (fun v19 σ20 => some (v19, σ20))) z)))))
theorem ok_X_bare (g : Gv) (x1 : Int32) (σ : Sg) (r : Int32 × Sg) (hf : f_X_bare x1 σ = some r) : Ok g y_X_bare c_X_bare 3 (some .int) 4 [.ref (gAd g (0, 0, 0)), .int x1] σ (some (.int r.1), r.2) := by
  unfold f_X_bare at hf
  refine Ok.of [(0, .ref (gAd g (0, 0, 0))), (1, .int x1)] (by decide) (Nat.le_of_ble_eq_true rfl) rfl ?_
  intro x hc
  have hc : Zc x g c_X_bare R_X 3 (some .int) 4 := hc
  obtain ⟨ρ, hρ⟩ : ∃ ρ : Option Value × Sg, ρ = (some (.int r.1), r.2) := ⟨_, rfl⟩
  rw [← hρ]
  refine z_aload_n hc d_X_bare_0 0 rfl ?_
  refine z_iload_n hc d_X_bare_1 1 rfl ?_
  obtain ⟨v1, σ2, h3, hf⟩ := bd2 hf
  refine cz_X_131 hc d_X_bare_2 (by decide)  h3 (Nat.le_of_ble_eq_true rfl) ?_
  refine z_if_ne (tgt := 15) hc d_X_bare_5 (by decide) (fun hq => ?_) (fun hq => ?_)
  · have hf := ifn hq hf
    refine z_aload_n hc d_X_bare_15 0 rfl ?_
    refine gf_X_63 hc d_X_bare_16  ?_
    refine z_aload_n hc d_X_bare_19 0 rfl ?_
    refine gf_X_50 hc d_X_bare_20  ?_
    refine gf_X_135 hc d_X_bare_23 (by decide) ?_
    refine z_iload_n hc d_X_bare_26 1 rfl ?_
    obtain ⟨j4, hj5, hf⟩ := bd hf
    refine ald_rugs hc d_X_bare_27 (by decide) hj5 ?_
    obtain ⟨v6, σ7, h8, hf⟩ := bd2 hf
    refine cz_X_212 hc d_X_bare_28 (by decide) okR_probe (okR_of (by decide) (rd_lt hj5)) h8 (Nat.le_of_ble_eq_true rfl) ?_
    refine z_iconst (v := (iI 0)) hc d_X_bare_31 (by decide) ?_
    refine z_istore_n (L' := [(2, .int (iI 0)), (0, .ref (gAd g (0, 0, 0))), (1, .int x1)]) hc d_X_bare_32 (by decide) rfl ?_
    refine z_sub [1, 0] (L' := [(0, .ref (gAd g (0, 0, 0))), (2, .int (iI 0))]) rfl ?_
    obtain ⟨q15, hl24, hf⟩ := bd hf
    refine lp_walk (α := (Int32 × Sg)) (β := ((Int32 × Sg) ⊕ (Sg))) (body := (fun a : (Int32 × Sg) => b_X_bare_33  a.1 a.2)) (In := (fun a : (Int32 × Sg) => Z x g 3 ρ 33 [(0, .ref (gAd g (0, 0, 0))), (2, .int a.1)] [] a.2)) (Out := (Sum.elim (fun b => Z x g 3 ρ 50 [(2, .int b.1)] [] b.2) (fun b => Z x g 3 ρ 73 [(0, .ref (gAd g (0, 0, 0)))] [] b))) (fun a r hb hi ho => sb_X_bare_33 hc   a.1 a.2 r hb hi (fun b e => ho _ e) (fun b e => ho _ e)) FU ((iI 0), σ7) _ hl24 ?_
    rcases q15 with ⟨y16, σ17⟩ | q15
    · try dsimp only [Sum.elim_inl, Sum.elim_inr] at hf
      try dsimp only [Sum.elim_inl, Sum.elim_inr]
      refine z_iload_n hc d_X_bare_50 0 rfl ?_
      exact z_iret hc d_X_bare_51 (rI hf hρ)
    try dsimp only [Sum.elim_inl, Sum.elim_inr] at hf
    try dsimp only [Sum.elim_inl, Sum.elim_inr]
    · obtain ⟨σ18, rfl⟩ : ∃ z, z = q15 := ⟨_, rfl⟩
      try dsimp only [Sum.elim_inl, Sum.elim_inr] at hf
      try dsimp only [Sum.elim_inl, Sum.elim_inr]
      refine z_aload_n hc d_X_bare_73 0 rfl ?_
      refine z_ldc (v := (iI (-1000000004))) hc co_X_225 d_X_bare_74 ?_
      obtain ⟨v19, σ20, h21, hf⟩ := bd2 hf
      refine cz_X_90 hc d_X_bare_76 (by decide)  h21 (Nat.le_of_ble_eq_true rfl) ?_
      exact z_iret hc d_X_bare_79 (rI hf hρ)
  · have hf := ifp hq hf
    refine z_aload_n hc d_X_bare_8 0 rfl ?_
    refine z_ldc (v := (iI (-1000000001))) hc co_X_89 d_X_bare_9 ?_
    obtain ⟨v25, σ26, h27, hf⟩ := bd2 hf
    refine cz_X_90 hc d_X_bare_11 (by decide)  h27 (Nat.le_of_ble_eq_true rfl) ?_
    exact z_iret hc d_X_bare_14 (rI hf hρ)
