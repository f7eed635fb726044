theorem tl1 (i : Nat) {w : Cond} (h : tables_1_1[i]? = some w) : w ∈ lw_tbl := List.mem_append_right _ (List.mem_append_left _ (List.mem_of_getElem? h))
theorem tl2 (i : Nat) {w : Cond} (h : tables_1_2[i]? = some w) : w ∈ lw_tbl := List.mem_append_right _ (List.mem_append_right _ (List.mem_append_left _ (List.mem_of_getElem? h)))
theorem tl3 (i : Nat) {w : Cond} (h : tables_1_3[i]? = some w) : w ∈ lw_tbl := List.mem_append_right _ (List.mem_append_right _ (List.mem_append_right _ (List.mem_append_left _ (List.mem_of_getElem? h))))
theorem tl4 (i : Nat) {w : Cond} (h : tables_1_4[i]? = some w) : w ∈ lw_tbl := List.mem_append_right _ (List.mem_append_right _ (List.mem_append_right _ (List.mem_append_right _ (List.mem_append_left _ (List.mem_of_getElem? h)))))
theorem tl5 (i : Nat) {w : Cond} (h : tables_1_5[i]? = some w) : w ∈ lw_tbl := List.mem_append_right _ (List.mem_append_right _ (List.mem_append_right _ (List.mem_append_right _ (List.mem_append_right _ (List.mem_append_left _ (List.mem_of_getElem? h))))))
theorem tl6 (i : Nat) {w : Cond} (h : tables_1_6[i]? = some w) : w ∈ lw_tbl := List.mem_append_right _ (List.mem_append_right _ (List.mem_append_right _ (List.mem_append_right _ (List.mem_append_right _ (List.mem_append_right _ (List.mem_of_getElem? h))))))
def v0 : Ro := fun j => if j = 6 then 1 else 0
theorem mny0 : mny v0 = 0 := by decide
theorem inv0 : Inv 0 sg0 := by
  refine ⟨v0, v0, 0, fun _ => 0, ⟨?_, ⟨⟨rfl, rfl, rfl, ?_⟩, ?_⟩, ?_⟩, ⟨rfl, Or.inl rfl⟩, fun _ _ => rfl, ⟨rfl, rfl, by omega, fun j hj => absurd hj (Nat.not_lt_zero _)⟩, ?_⟩
  · intro j hj
    show upd (fun _ => 0) 6 1 j = iI (v0 j)
    unfold upd v0
    by_cases h : j = 6
    · rw [if_pos h, if_pos h]; rfl
    · rw [if_neg h, if_neg h]; rfl
  · intro i hi
    show upd (fun _ => 0) 3 1 i = iI (v0 (3 + i))
    unfold upd v0
    by_cases h : i = 3
    · rw [if_pos h, if_pos (by omega)]; rfl
    · rw [if_neg h, if_neg (by omega)]; rfl
  · intro c hc
    rw [mny0] at hc
    exact absurd hc (Nat.not_lt_zero _)
  · refine ⟨⟨by decide, by decide, by decide, ?_, ?_⟩, by decide, ?_, by decide, ?_⟩
    · intro i hi
      unfold v0
      by_cases h : 3 + i = 6
      · rw [if_pos h]; exact Or.inr rfl
      · rw [if_neg h]; exact Or.inl rfl
    · intro k hk
      have : v0 2 = 0 := rfl
      omega
    · intro a b ha
      rw [mny0] at ha
      exact absurd ha (Nat.not_lt_zero _)
    · intro c hc
      rw [mny0] at hc
      exact absurd hc (Nat.not_lt_zero _)
  · intro s hs
    exact ⟨rfl, Or.inl rfl, ⟨0, by omega, rfl, rfl⟩, fun _ _ => rfl⟩
def adB (u v : Ad → Nat) : Ad → Nat := fun a => match (a.1 == 6 || Nat.ble 20 a.1) with
  | true => v a
  | false => u a
def gB (g : Gv) (u v : Ad → Nat) : Gv := (g.1, g.2.1, adB u v, g.2.2.2)
theorem gB_W (g : Gv) (u v : Ad → Nat) : W0 (gB g u v) sg0 = wX g u ++ wM g v := rfl
theorem st_walk {x : Cx} {A : Nat → Prop} {g : Gv} {b : Nat} {nm : String} {Q : State → Prop} (hc : Yc x A g code R_law 4 ret nm 13 73 1281) (k : ∀ (u v : Ad → Nat), Y x A g 4 Q 73 1281 18 [(3, .int 0), (2, .ref (v (6, 0, 0))), (1, .ref (u (0, 0, 0))), (0, .ref b)] [] (wX g u ++ wM g v)) : Y x A g 4 Q 0 0 0 [(0, .ref b)] [] [] := by
  refine y_new (ci := 10) (fs := [.null, .null, .null, .null, .null, .null, .null, .null, .int 0]) (cl' := 1) (sl' := 9) hc d_law_0 in_X ty_X tyok_X rfl (tb1 22 (by decide +kernel) (by decide +kernel)) (tb1 23 (by decide +kernel) (by decide +kernel)) (tb1 1 (by decide +kernel) (by decide +kernel)) (by decide) rfl rfl (by decide) (by decide) (fun q => ?_)
  show Y x A g 4 Q 1 9 3 [(0, .ref b)] [.ref q] [(q, .inr (10, [.null, .null, .null, .null, .null, .null, .null, .null, .int 0]))]
  refine y_dup hc d_law_3 rfl ?_
  refine y_init (S := {ad : Ad → Nat // ad (0, 0, 0) = q}) (wc := [(q, .inr (10, [.null, .null, .null, .null, .null, .null, .null, .null, .int 0]))]) (wr := []) (b := q) (As := []) (st := [.ref q]) (cl' := 60) (sl' := 634) hc d_law_4 il_law_9 (by decide) (mk_X g q) [0] [] rfl (by decide) rfl (by decide) (by decide) rfl rfl (Nat.le_of_ble_eq_true rfl) rfl rfl (by decide) (by decide) (fun u => ?_)
  obtain ⟨u, hu⟩ := u
  subst hu
  show Y x A g 4 Q 60 634 7 [(0, .ref b)] [.ref (u (0, 0, 0))] (wX g u)
  refine y_astore_n (L' := [(1, .ref (u (0, 0, 0))), (0, .ref b)]) hc d_law_7 (by decide) rfl ?_
  refine y_new (ci := 11) (fs := [.null, .null, .null, .int 0, .null, .null, .int 0, .int 0, .int 0, .int 0, .long 0, .null, .null, .null, .null, .null, .null, .null]) (cl' := 61) (sl' := 652) hc d_law_8 in_M ty_M tyok_M rfl (tb4 126 (by decide +kernel) (by decide +kernel)) (tb4 127 (by decide +kernel) (by decide +kernel)) (tb1 12 (by decide +kernel) (by decide +kernel)) (by decide) rfl rfl (by decide) (by decide) (fun q => ?_)
  refine y_dup hc d_law_11 rfl ?_
  refine y_init (S := {ad : Ad → Nat // ad (6, 0, 0) = q}) (wc := [(q, .inr (11, [.null, .null, .null, .int 0, .null, .null, .int 0, .int 0, .int 0, .int 0, .long 0, .null, .null, .null, .null, .null, .null, .null]))]) (wr := wX g u) (b := q) (As := []) (st := [.ref q]) (cl' := 73) (sl' := 1281) hc d_law_12 il_law_12 (by decide) (mk_M g q) [60] [0, 1, 2, 3, 4, 5, 6, 7, 8, 9, 10, 11, 12, 13, 14, 15, 16, 17, 18, 19, 20, 21, 22, 23, 24, 25, 26, 27, 28, 29, 30, 31, 32, 33, 34, 35, 36, 37, 38, 39, 40, 41, 42, 43, 44, 45, 46, 47, 48, 49, 50, 51, 52, 53, 54, 55, 56, 57, 58, 59] rfl (by decide) rfl (by decide) (by decide) rfl rfl (Nat.le_of_ble_eq_true rfl) rfl rfl (by decide) (by decide) (fun v => ?_)
  obtain ⟨v, hv⟩ := v
  subst hv
  show Y x A g 4 Q 73 1281 15 [(1, .ref (u (0, 0, 0))), (0, .ref b)] [.ref (v (6, 0, 0))] (wX g u ++ wM g v)
  refine y_astore_n (L' := [(2, .ref (v (6, 0, 0))), (1, .ref (u (0, 0, 0))), (0, .ref b)]) hc d_law_15 (by decide) rfl ?_
  refine y_iconst (v := 0) hc d_law_16 (by decide) ?_
  refine y_istore_n (L' := [(3, .int 0), (2, .ref (v (6, 0, 0))), (1, .ref (u (0, 0, 0))), (0, .ref b)]) hc d_law_17 (by decide) rfl ?_
  exact k u v
theorem gB_inj {g : Gv} {u v : Ad → Nat} {A : Nat → Prop} (hD : va_D A (W0 (gB g u v) sg0)) : Inj (gB g u v) ∧ ∀ a ∈ dom, A (gAd (gB g u v) a) := by
  refine ⟨fun a ha b hb e => ?_, fun a ha => ?_⟩
  · obtain ⟨i, hi⟩ := List.getElem?_of_mem ha
    obtain ⟨j, hj⟩ := List.getElem?_of_mem hb
    have := hD.1 i j _ _ (W0_at hi) (W0_at hj) e
    subst this
    rw [hi] at hj
    exact Option.some.inj hj
  · obtain ⟨i, hi⟩ := List.getElem?_of_mem ha
    exact hD.2 i _ (W0_at hi)
def tmK : Nat → Term := fun i => ([.string "CarpetRealms" 11, .string "CarpetRealms" 18, .string "CarpetRealms" 23, .string "CarpetRealms" 28, .string "CarpetRealms" 33, .string "CarpetRealms" 38, .string "CarpetRealms$PalaceReader" 30, .string "CarpetRealms$PalaceReader" 40, .string "CarpetRealms$PalaceReader" 46, .string "CarpetRealms$PalaceReader" 96, .string "CarpetRealms$PalaceReader" 101, .string "CarpetRealms$PalaceReader" 105] : List Term).getD i .null
def flK : List Cond := flatC (Jvm.Cond.and given_1 narrow_1)
theorem sm_ex : ∀ i : Nat, i < 12 → Cond.exactly (tmK i) "java/lang/String" ∈ flK := by decide +kernel
theorem sm_co : ∀ i : Nat, i < 12 → Cond.eq (.field (tmK i) "java/lang/String" "coder" "B") (.int 0) ∈ flK := by decide +kernel
theorem sm_ar : ∀ i : Nat, i < 12 → Cond.arrayOf (.field (tmK i) "java/lang/String" "value" "[B") .byte ∈ flK := by decide +kernel
theorem sm_le : ∀ i : Nat, i < 12 → Cond.eq (.length (.field (tmK i) "java/lang/String" "value" "[B")) (.int (Int32.ofNat (lenK.getD i 0))) ∈ flK := by decide +kernel
theorem sm_el : ∀ i : Nat, i < 12 → ∀ j : Nat, j < lenK.getD i 0 → Cond.eq (.elem (.field (tmK i) "java/lang/String" "value" "[B") (.int (Int32.ofNat j))) (.int ((bytK.getD i []).getD j 0)) ∈ flK := by decide +kernel
theorem sm_ne : ∀ i : Nat, i < 12 → ∀ j : Nat, j < 12 → i ≠ j → (Cond.not (Cond.eq (tmK i) (tmK j)) ∈ flK ∨ Cond.not (Cond.eq (tmK j) (tmK i)) ∈ flK) := by decide +kernel
theorem sm_cs : Cond.eq (.static "java/lang/String" "COMPACT_STRINGS" "Z") (.int 1) ∈ flK := by decide +kernel
theorem sm_sf : Cond.isRef (.static "jdk/internal/util/Preconditions" "SIOOBE_FORMATTER" "Ljava/util/function/BiFunction;") ∈ flK := by decide +kernel
