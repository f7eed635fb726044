/-- the law's loop: class and reference stay side by side -/
theorem law_loop {x : Cx} {g : Gv} {b L : Nat} {xs : Nat → Int32} (hc : Lc x g b L xs) (hL : L ≤ 3072) : ∀ (f n : Nat) (σ : Sg), 513 ≤ n + f → 6 * n ≤ L → Inv n σ → Lz x g 18 (LL g b n) [] σ := by
  intro f
  induction f with
  | zero => intro n σ h1 h2 _; omega
  | succ f ih =>
    intro n σ h1 h2 hi
    refine l_iload_n hc d_law_18 0 rfl ?_
    refine l_aload_n hc d_law_19 3 rfl ?_
    refine l_len hc d_law_20 ?_
    refine l_bipush (v := iI 6) hc d_law_21 (by decide) ?_
    refine l_isub hc d_law_23 ?_
    rw [iI_sub]
    refine l_icmp_gt (tgt := 1375) hc d_law_24 (by decide) (fun hq => ?_) (fun hq => ?_)
    · refine l_iconst (v := 1) hc d_law_1375 (by decide) ?_
      exact l_end hc d_law_1376
    · rw [iI_lt (by omega) (by omega)] at hq
      have hn : 6 * n + 6 ≤ L := by omega
      have key : ∀ σ', Inv (n + 1) σ' → Lz x g 1369 (LL g b n) [] σ' := by
        intro σ' hi'
        refine l_iinc (v := iI ((6 * (n + 1) : Nat) : Int)) (Lo' := LL g b (n + 1)) hc d_law_1369 0 rfl ?_ (by decide) rfl ?_
        · rw [show Int32.ofInt 6 = iI 6 from rfl, iI_add]
          congr 1
        exact l_goto (tgt := 18) hc d_law_1372 (by decide) (ih (n + 1) σ' (by omega) (by omega) hi')
      refine l_aload_n hc d_law_27 3 rfl ?_
      refine l_iload_n hc d_law_28 0 rfl ?_
      refine l_ald (j := 6 * n) hc d_law_29 (rd_N (by omega) (by omega)) ?_
      refine l_bipush (v := iI 63) hc d_law_30 (by decide) ?_
      refine l_iand hc d_law_32 ?_
      generalize xs (6 * n) &&& iI 63 = a
      by_cases ho : a.toInt < 0 ∨ 39 < a.toInt
      · exact l_tabD (tgt := 1369) hc d_law_33 ho (by decide) (key σ (hi.mono (by omega)))
      · obtain ⟨j, hj⟩ : ∃ j : Nat, a.toInt = j := ⟨a.toInt.toNat, by omega⟩
        have hj40 : j < 40 := by omega
        match j, hj40, hj with
        | 0, _, hj => exact l_tab (off := 175) (tgt := 208) hc d_law_33 (by rw [hj]; decide) (by rw [hj]; decide) (by rw [hj]; rfl) (by decide) (cs_0 hc hL hn hi key)
        | 1, _, hj => exact l_tab (off := 208) (tgt := 241) hc d_law_33 (by rw [hj]; decide) (by rw [hj]; decide) (by rw [hj]; rfl) (by decide) (cs_1 hc hL hn hi key)
        | 2, _, hj => exact l_tab (off := 241) (tgt := 274) hc d_law_33 (by rw [hj]; decide) (by rw [hj]; decide) (by rw [hj]; rfl) (by decide) (cs_2 hc hL hn hi key)
        | 3, _, hj => exact l_tab (off := 264) (tgt := 297) hc d_law_33 (by rw [hj]; decide) (by rw [hj]; decide) (by rw [hj]; rfl) (by decide) (cs_3 hc hL hn hi key)
        | 4, _, hj => exact l_tab (off := 277) (tgt := 310) hc d_law_33 (by rw [hj]; decide) (by rw [hj]; decide) (by rw [hj]; rfl) (by decide) (cs_4 hc hL hn hi key)
        | 5, _, hj => exact l_tab (off := 300) (tgt := 333) hc d_law_33 (by rw [hj]; decide) (by rw [hj]; decide) (by rw [hj]; rfl) (by decide) (cs_5 hc hL hn hi key)
        | 6, _, hj => exact l_tab (off := 323) (tgt := 356) hc d_law_33 (by rw [hj]; decide) (by rw [hj]; decide) (by rw [hj]; rfl) (by decide) (cs_6 hc hL hn hi key)
        | 7, _, hj => exact l_tab (off := 356) (tgt := 389) hc d_law_33 (by rw [hj]; decide) (by rw [hj]; decide) (by rw [hj]; rfl) (by decide) (cs_7 hc hL hn hi key)
        | 8, _, hj => exact l_tab (off := 389) (tgt := 422) hc d_law_33 (by rw [hj]; decide) (by rw [hj]; decide) (by rw [hj]; rfl) (by decide) (cs_8 hc hL hn hi key)
        | 9, _, hj => exact l_tab (off := 432) (tgt := 465) hc d_law_33 (by rw [hj]; decide) (by rw [hj]; decide) (by rw [hj]; rfl) (by decide) (cs_9 hc hL hn hi key)
        | 10, _, hj => exact l_tab (off := 465) (tgt := 498) hc d_law_33 (by rw [hj]; decide) (by rw [hj]; decide) (by rw [hj]; rfl) (by decide) (cs_10 hc hL hn hi key)
        | 11, _, hj => exact l_tab (off := 498) (tgt := 531) hc d_law_33 (by rw [hj]; decide) (by rw [hj]; decide) (by rw [hj]; rfl) (by decide) (cs_11 hc hL hn hi key)
        | 12, _, hj => exact l_tab (off := 531) (tgt := 564) hc d_law_33 (by rw [hj]; decide) (by rw [hj]; decide) (by rw [hj]; rfl) (by decide) (cs_12 hc hL hn hi key)
        | 13, _, hj => exact l_tab (off := 554) (tgt := 587) hc d_law_33 (by rw [hj]; decide) (by rw [hj]; decide) (by rw [hj]; rfl) (by decide) (cs_13 hc hL hn hi key)
        | 14, _, hj => exact l_tab (off := 577) (tgt := 610) hc d_law_33 (by rw [hj]; decide) (by rw [hj]; decide) (by rw [hj]; rfl) (by decide) (cs_14 hc hL hn hi key)
        | 15, _, hj => exact l_tab (off := 600) (tgt := 633) hc d_law_33 (by rw [hj]; decide) (by rw [hj]; decide) (by rw [hj]; rfl) (by decide) (cs_15 hc hL hn hi key)
        | 16, _, hj => exact l_tab (off := 643) (tgt := 676) hc d_law_33 (by rw [hj]; decide) (by rw [hj]; decide) (by rw [hj]; rfl) (by decide) (cs_16 hc hL hn hi key)
        | 17, _, hj => exact l_tab (off := 676) (tgt := 709) hc d_law_33 (by rw [hj]; decide) (by rw [hj]; decide) (by rw [hj]; rfl) (by decide) (cs_17 hc hL hn hi key)
        | 18, _, hj => exact l_tab (off := 699) (tgt := 732) hc d_law_33 (by rw [hj]; decide) (by rw [hj]; decide) (by rw [hj]; rfl) (by decide) (cs_18 hc hL hn hi key)
        | 19, _, hj => exact l_tab (off := 722) (tgt := 755) hc d_law_33 (by rw [hj]; decide) (by rw [hj]; decide) (by rw [hj]; rfl) (by decide) (cs_19 hc hL hn hi key)
        | 20, _, hj => exact l_tab (off := 745) (tgt := 778) hc d_law_33 (by rw [hj]; decide) (by rw [hj]; decide) (by rw [hj]; rfl) (by decide) (cs_20 hc hL hn hi key)
        | 21, _, hj => exact l_tab (off := 778) (tgt := 811) hc d_law_33 (by rw [hj]; decide) (by rw [hj]; decide) (by rw [hj]; rfl) (by decide) (cs_21 hc hL hn hi key)
        | 22, _, hj => exact l_tab (off := 811) (tgt := 844) hc d_law_33 (by rw [hj]; decide) (by rw [hj]; decide) (by rw [hj]; rfl) (by decide) (cs_22 hc hL hn hi key)
        | 23, _, hj => exact l_tab (off := 834) (tgt := 867) hc d_law_33 (by rw [hj]; decide) (by rw [hj]; decide) (by rw [hj]; rfl) (by decide) (cs_23 hc hL hn hi key)
        | 24, _, hj => exact l_tab (off := 867) (tgt := 900) hc d_law_33 (by rw [hj]; decide) (by rw [hj]; decide) (by rw [hj]; rfl) (by decide) (cs_24 hc hL hn hi key)
        | 25, _, hj => exact l_tab (off := 890) (tgt := 923) hc d_law_33 (by rw [hj]; decide) (by rw [hj]; decide) (by rw [hj]; rfl) (by decide) (cs_25 hc hL hn hi key)
        | 26, _, hj => exact l_tab (off := 923) (tgt := 956) hc d_law_33 (by rw [hj]; decide) (by rw [hj]; decide) (by rw [hj]; rfl) (by decide) (cs_26 hc hL hn hi key)
        | 27, _, hj => exact l_tab (off := 956) (tgt := 989) hc d_law_33 (by rw [hj]; decide) (by rw [hj]; decide) (by rw [hj]; rfl) (by decide) (cs_27 hc hL hn hi key)
        | 28, _, hj => exact l_tab (off := 969) (tgt := 1002) hc d_law_33 (by rw [hj]; decide) (by rw [hj]; decide) (by rw [hj]; rfl) (by decide) (cs_28 hc hL hn hi key)
        | 29, _, hj => exact l_tab (off := 982) (tgt := 1015) hc d_law_33 (by rw [hj]; decide) (by rw [hj]; decide) (by rw [hj]; rfl) (by decide) (cs_29 hc hL hn hi key)
        | 30, _, hj => exact l_tab (off := 1025) (tgt := 1058) hc d_law_33 (by rw [hj]; decide) (by rw [hj]; decide) (by rw [hj]; rfl) (by decide) (cs_30 hc hL hn hi key)
        | 31, _, hj => exact l_tab (off := 1099) (tgt := 1132) hc d_law_33 (by rw [hj]; decide) (by rw [hj]; decide) (by rw [hj]; rfl) (by decide) (cs_31 hc hL hn hi key)
        | 32, _, hj => exact l_tab (off := 1162) (tgt := 1195) hc d_law_33 (by rw [hj]; decide) (by rw [hj]; decide) (by rw [hj]; rfl) (by decide) (cs_32 hc hL hn hi key)
        | 33, _, hj => exact l_tab (off := 1185) (tgt := 1218) hc d_law_33 (by rw [hj]; decide) (by rw [hj]; decide) (by rw [hj]; rfl) (by decide) (cs_33 hc hL hn hi key)
        | 34, _, hj => exact l_tab (off := 1218) (tgt := 1251) hc d_law_33 (by rw [hj]; decide) (by rw [hj]; decide) (by rw [hj]; rfl) (by decide) (cs_34 hc hL hn hi key)
        | 35, _, hj => exact l_tab (off := 1251) (tgt := 1284) hc d_law_33 (by rw [hj]; decide) (by rw [hj]; decide) (by rw [hj]; rfl) (by decide) (cs_35 hc hL hn hi key)
        | 36, _, hj => exact l_tab (off := 1264) (tgt := 1297) hc d_law_33 (by rw [hj]; decide) (by rw [hj]; decide) (by rw [hj]; rfl) (by decide) (cs_36 hc hL hn hi key)
        | 37, _, hj => exact l_tab (off := 1277) (tgt := 1310) hc d_law_33 (by rw [hj]; decide) (by rw [hj]; decide) (by rw [hj]; rfl) (by decide) (cs_37 hc hL hn hi key)
        | 38, _, hj => exact l_tab (off := 1290) (tgt := 1323) hc d_law_33 (by rw [hj]; decide) (by rw [hj]; decide) (by rw [hj]; rfl) (by decide) (cs_38 hc hL hn hi key)
        | 39, _, hj => exact l_tab (off := 1313) (tgt := 1346) hc d_law_33 (by rw [hj]; decide) (by rw [hj]; decide) (by rw [hj]; rfl) (by decide) (cs_39 hc hL hn hi key)
        | j + 40, h, _ => exact absurd h (by omega)
