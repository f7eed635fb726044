theorem ob_i : Cond.instanceMethod Lib.objectInit ∈ TB := tb1 28 (by decide +kernel) (by decide +kernel)
theorem ob_c : Cond.code Lib.objectInit ⟨#[0xb1]⟩ 1 none ∈ TB := tb1 29 rfl rfl
theorem il_Mat_1 : IL R_Mat 1 y_Kind_init c_Kind_init 4 3 := ⟨tb1 78 (by decide +kernel) (by decide +kernel), tb1 34 (by decide +kernel) (by decide +kernel), tb1 2 (by decide +kernel) (by decide +kernel), k_Kind_init, by decide, by decide, rfl, by decide +kernel, by decide⟩
theorem il_Runner_1 : IL R_Runner 1 y_Kind_init c_Kind_init 4 3 := ⟨tb1 56 (by decide +kernel) (by decide +kernel), tb1 34 (by decide +kernel) (by decide +kernel), tb1 2 (by decide +kernel) (by decide +kernel), k_Kind_init, by decide, by decide, rfl, by decide +kernel, by decide⟩
theorem il_Shag_1 : IL R_Shag 1 y_Velvet_init c_Velvet_init 4 3 := ⟨tb1 100 (by decide +kernel) (by decide +kernel), tb1 65 (by decide +kernel) (by decide +kernel), tb1 4 (by decide +kernel) (by decide +kernel), k_Velvet_init, by decide, by decide, rfl, by decide +kernel, by decide⟩
theorem il_Stair_1 : IL R_Stair 1 y_Runner_init c_Runner_init 4 3 := ⟨tb1 89 (by decide +kernel) (by decide +kernel), tb1 54 (by decide +kernel) (by decide +kernel), tb1 3 (by decide +kernel) (by decide +kernel), k_Runner_init, by decide, by decide, rfl, by decide +kernel, by decide⟩
theorem il_Velvet_1 : IL R_Velvet 1 y_Kind_init c_Kind_init 4 3 := ⟨tb1 67 (by decide +kernel) (by decide +kernel), tb1 34 (by decide +kernel) (by decide +kernel), tb1 2 (by decide +kernel) (by decide +kernel), k_Kind_init, by decide, by decide, rfl, by decide +kernel, by decide⟩
theorem il_World_17 : IL R_World 17 y_Rug_init c_Rug_init 2 1 := ⟨tb1 115 (by decide +kernel) (by decide +kernel), tb1 116 (by decide +kernel) (by decide +kernel), tb1 9 (by decide +kernel) (by decide +kernel), k_Rug_init, by decide, by decide, rfl, by decide +kernel, by decide⟩
theorem il_X_13 : IL R_X 13 y_Kind_init c_Kind_init 4 3 := ⟨tb1 33 (by decide +kernel) (by decide +kernel), tb1 34 (by decide +kernel) (by decide +kernel), tb1 2 (by decide +kernel) (by decide +kernel), k_Kind_init, by decide, by decide, rfl, by decide +kernel, by decide⟩
theorem il_X_20 : IL R_X 20 y_Runner_init c_Runner_init 4 3 := ⟨tb1 53 (by decide +kernel) (by decide +kernel), tb1 54 (by decide +kernel) (by decide +kernel), tb1 3 (by decide +kernel) (by decide +kernel), k_Runner_init, by decide, by decide, rfl, by decide +kernel, by decide⟩
theorem il_X_25 : IL R_X 25 y_Velvet_init c_Velvet_init 4 3 := ⟨tb1 64 (by decide +kernel) (by decide +kernel), tb1 65 (by decide +kernel) (by decide +kernel), tb1 4 (by decide +kernel) (by decide +kernel), k_Velvet_init, by decide, by decide, rfl, by decide +kernel, by decide⟩
theorem il_X_30 : IL R_X 30 y_Mat_init c_Mat_init 4 3 := ⟨tb1 75 (by decide +kernel) (by decide +kernel), tb1 76 (by decide +kernel) (by decide +kernel), tb1 5 (by decide +kernel) (by decide +kernel), k_Mat_init, by decide, by decide, rfl, by decide +kernel, by decide⟩
theorem il_X_35 : IL R_X 35 y_Stair_init c_Stair_init 4 3 := ⟨tb1 86 (by decide +kernel) (by decide +kernel), tb1 87 (by decide +kernel) (by decide +kernel), tb1 6 (by decide +kernel) (by decide +kernel), k_Stair_init, by decide, by decide, rfl, by decide +kernel, by decide⟩
theorem il_X_40 : IL R_X 40 y_Shag_init c_Shag_init 4 3 := ⟨tb1 97 (by decide +kernel) (by decide +kernel), tb1 98 (by decide +kernel) (by decide +kernel), tb1 7 (by decide +kernel) (by decide +kernel), k_Shag_init, by decide, by decide, rfl, by decide +kernel, by decide⟩
theorem il_X_47 : IL R_X 47 y_World_init c_World_init 3 1 := ⟨tb1 108 (by decide +kernel) (by decide +kernel), tb1 109 (by decide +kernel) (by decide +kernel), tb1 8 (by decide +kernel) (by decide +kernel), k_World_init, by decide, by decide, rfl, by decide +kernel, by decide⟩
theorem il_X_62 : IL R_X 62 y_Rug_init c_Rug_init 2 1 := ⟨tb1 195 (by decide +kernel) (by decide +kernel), tb1 116 (by decide +kernel) (by decide +kernel), tb1 9 (by decide +kernel) (by decide +kernel), k_Rug_init, by decide, by decide, rfl, by decide +kernel, by decide⟩
theorem il_X_69 : IL R_X 69 y_Tape_init c_Tape_init 1 0 := ⟨tb1 198 (by decide +kernel) (by decide +kernel), tb1 199 (by decide +kernel) (by decide +kernel), tb1 10 (by decide +kernel) (by decide +kernel), k_Tape_init, by decide, by decide, rfl, by decide +kernel, by decide⟩
theorem il_X_80 : IL R_X 80 y_Sheet_init c_Sheet_init 1 0 := ⟨tb1 227 (by decide +kernel) (by decide +kernel), tb1 228 (by decide +kernel) (by decide +kernel), tb1 11 (by decide +kernel) (by decide +kernel), k_Sheet_init, by decide, by decide, rfl, by decide +kernel, by decide⟩
section YN
variable {x : Cx} {A : Nat → Prop} {g : Gv} {cc : ByteArray} {own nm : String} {nL d mc ms pc cl sl : Nat} {ret : Option FieldType} {Q : State → Prop} {L L' : List (Nat × Value)} {st : List Value} {ws ws' : va_W}
theorem y_aload_nN {n : Fin 4} (hc : Yc x A g cc own nL ret nm d mc ms) (hd : decode cc pc = .ok (.aload_n n, 1)) (j : Nat) (hL : L[j]? = some ((n : Nat), .null)) (k : Y x A g nL Q cl sl (pc + 1) L (.null :: st) ws) : Y x A g nL Q cl sl pc L st ws := by
  obtain ⟨p, l, e, R, s, m, args, below, meth, c⟩ := x
  intro H locs ls hP hD hS h
  exact lv_aload_nN hc.1 hc.2.1 hd rfl (lv_at h j hL) (k H locs ls hP hD hS h)
end YN
theorem sameQ {cA : ClassId} {n : Nat} {f f' : Nat → Option Nat} (h : ∀ j, j < n → f j = f' j) : vp_cell cA (n, .inr (.inr (.inr (.inr f)))) = vp_cell cA (n, .inr (.inr (.inr (.inr f')))) := by
  rw [vp_cell_q, vp_cell_q]
  unfold arrV
  congr 1
  congr 1
  funext j
  show va_rf (f j.val) = va_rf (f' j.val)
  rw [h j.val j.isLt]
def cF (k i : Nat) : Nat → Int32 := fun j => if j < i then chA k j else 0
theorem cF0 {k : Nat} : (fun _ => 0 : Nat → Int32) = cF k 0 := by
  funext j
  unfold cF
  rw [if_neg (Nat.not_lt_zero _)]
theorem cF_up {k i : Nat} {v : Int32} (h : vp_nar .char v = chA k i) : upd (cF k i) i (vp_nar .char v) = cF k (i + 1) := by
  funext j
  unfold upd cF
  by_cases h1 : j = i
  · subst h1
    rw [if_pos rfl, if_pos (Nat.lt_succ_self _), h]
  · rw [if_neg h1]
    by_cases h2 : j < i
    · rw [if_pos h2, if_pos (Nat.lt_succ_of_lt h2)]
    · rw [if_neg h2, if_neg (by omega)]
theorem cFE {k n : Nat} (h : (chs k).length = n) : cF k n = chA k := by
  funext j
  unfold cF
  by_cases h1 : j < n
  · rw [if_pos h1]
  · rw [if_neg h1]
    unfold chA
    rw [List.getD_eq_getElem?_getD, List.getElem?_eq_none (by omega)]
    rfl
theorem cF0E : cF 0 48 = chA 0 := cFE rfl
theorem cF1E : cF 1 24 = chA 1 := cFE rfl
theorem cF2E : cF 2 24 = chA 2 := cFE rfl
/-- the numbers at the start -/
def s0I (t : Nat) : Nat → Int32 := match t with
  | 12 => upd (fun _ => 0) 3 1
  | 2 => upd (fun _ => 0) 5 (-1)
  | 20 => upd (fun _ => 0) 6 1
  | _ => fun _ => 0
def sg0 : Sg := (fun t _ _ => s0I t, fun _ _ _ _ => 0, fun _ _ _ => 0)
def adX (b : Nat) (k : List Nat) (ka : Nat) (w : List Nat) (u : Nat → Nat → Nat) (p tp tb sa : Nat) (sh sn : List Nat) (ta : Nat) : Ad → Nat := fun a => match a with
  | (0, _, _) => b
  | (1, i, _) => w.getD i 0
  | (2, 3, _) => p
  | (2, i, j) => u i (1 + j)
  | (3, i, _) => sh.getD i 0
  | (4, _, _) => tp
  | (5, i, _) => k.getD i 0
  | (10, _, _) => ka
  | (11, i, _) => u i 0
  | (12, i, _) => u i 9
  | (13, i, _) => u i 10
  | (14, i, _) => u i 11
  | (15, _, _) => tb
  | (16, _, _) => sa
  | (17, i, _) => sn.getD i 0
  | _ => ta
def adM (b s kp a f t : Nat) (c : List Nat) (w z e r : Nat) : Ad → Nat := fun q => match q with
  | (6, _, _) => b
  | (20, _, _) => s
  | (21, _, _) => kp
  | (22, _, _) => a
  | (23, _, _) => f
  | (24, _, _) => t
  | (25, i, _) => c.getD i 0
  | (28, _, _) => w
  | (29, _, _) => z
  | (30, _, _) => e
  | _ => r
def wX (g : Gv) (ad : Ad → Nat) : va_W := domX.map (fun a => (ad a, ent (g.1, g.2.1, ad, g.2.2.2) sg0 a))
def wM (g : Gv) (ad : Ad → Nat) : va_W := domM.map (fun a => (ad a, ent (g.1, g.2.1, ad, g.2.2.2) sg0 a))
theorem mk_Kind_0 (g : Gv) (b : Nat) (n : Int32) (t : Nat) : OkI (S := Unit) g y_Kind_init c_Kind_init 4 1 0 0 [.ref b, .int n, .ref t, .null] [(b, .inr (0, [.int 0, .null, .null]))] (fun _ => [(b, .inr (0, [.int n, .ref t, .null]))]) := by
  refine OkI.of [(0, .ref b), (1, .int n), (2, .ref t), (3, .null)] (by decide) (Nat.le_of_ble_eq_true rfl) rfl ?_
  intro x A Q hc hq
  have hc : Yc x A g c_Kind_init R_Kind 4 none "<init>" 1 0 0 := hc
  refine y_aload_n hc d_Kind_init_0 0 rfl ?_
  refine y_obj hc d_Kind_init_1 (tb1 36 (by decide +kernel) (by decide +kernel)) ob_i ob_c (by decide) (Nat.le_of_ble_eq_true rfl) ?_
  refine y_aload_n hc d_Kind_init_4 0 rfl ?_
  refine y_iload_n hc d_Kind_init_5 1 rfl ?_
  refine y_putF (ci := 0) (ws' := [(b, .inr (0, [.int n, .null, .null]))]) hc d_Kind_init_6 in_Kind ty_Kind tyok_Kind nm_Kind rfl 0 (by decide) (tb1 37 (by decide +kernel) (by decide +kernel)) rfl rfl (tyok_Kind 0 (by decide)) rfl rfl 0 rfl (Nat.le_of_ble_eq_true rfl) rfl ?_
  refine y_aload_n hc d_Kind_init_9 0 rfl ?_
  refine y_aload_n hc d_Kind_init_10 2 rfl ?_
  refine y_putF (ci := 0) (ws' := [(b, .inr (0, [.int n, .ref t, .null]))]) hc d_Kind_init_11 in_Kind ty_Kind tyok_Kind nm_Kind rfl 1 (by decide) (tb1 39 (by decide +kernel) (by decide +kernel)) rfl rfl (tyok_Kind 1 (by decide)) rfl rfl 0 rfl (Nat.le_of_ble_eq_true rfl) rfl ?_
  refine y_aload_n hc d_Kind_init_14 0 rfl ?_
  refine y_aload_nN hc d_Kind_init_15 3 rfl ?_
  refine y_putF (ci := 0) (ws' := [(b, .inr (0, [.int n, .ref t, .null]))]) hc d_Kind_init_16 in_Kind ty_Kind tyok_Kind nm_Kind rfl 2 (by decide) (tb1 41 (by decide +kernel) (by decide +kernel)) rfl rfl (tyok_Kind 2 (by decide)) rfl rfl 0 rfl (Nat.le_of_ble_eq_true rfl) rfl ?_
  exact y_ret hc hq d_Kind_init_19 () [0] (by decide) rfl rfl rfl
theorem mk_Kind_3 (g : Gv) (b : Nat) (n : Int32) (t : Nat) (a : Nat) : OkI (S := Unit) g y_Kind_init c_Kind_init 4 1 0 0 [.ref b, .int n, .ref t, .ref a] [(b, .inr (3, [.int 0, .null, .null]))] (fun _ => [(b, .inr (3, [.int n, .ref t, .ref a]))]) := by
  refine OkI.of [(0, .ref b), (1, .int n), (2, .ref t), (3, .ref a)] (by decide) (Nat.le_of_ble_eq_true rfl) rfl ?_
  intro x A Q hc hq
  have hc : Yc x A g c_Kind_init R_Kind 4 none "<init>" 1 0 0 := hc
  refine y_aload_n hc d_Kind_init_0 0 rfl ?_
  refine y_obj hc d_Kind_init_1 (tb1 36 (by decide +kernel) (by decide +kernel)) ob_i ob_c (by decide) (Nat.le_of_ble_eq_true rfl) ?_
  refine y_aload_n hc d_Kind_init_4 0 rfl ?_
  refine y_iload_n hc d_Kind_init_5 1 rfl ?_
  refine y_putF (ci := 3) (ws' := [(b, .inr (3, [.int n, .null, .null]))]) hc d_Kind_init_6 in_Runner ty_Runner tyok_Runner nm_Runner rfl 0 (by decide) (tb1 37 (by decide +kernel) (by decide +kernel)) rfl rfl (tyok_Runner 0 (by decide)) rfl rfl 0 rfl (Nat.le_of_ble_eq_true rfl) rfl ?_
  refine y_aload_n hc d_Kind_init_9 0 rfl ?_
  refine y_aload_n hc d_Kind_init_10 2 rfl ?_
  refine y_putF (ci := 3) (ws' := [(b, .inr (3, [.int n, .ref t, .null]))]) hc d_Kind_init_11 in_Runner ty_Runner tyok_Runner nm_Runner rfl 1 (by decide) (tb1 39 (by decide +kernel) (by decide +kernel)) rfl rfl (tyok_Runner 1 (by decide)) rfl rfl 0 rfl (Nat.le_of_ble_eq_true rfl) rfl ?_
  refine y_aload_n hc d_Kind_init_14 0 rfl ?_
  refine y_aload_n hc d_Kind_init_15 3 rfl ?_
  refine y_putF (ci := 3) (ws' := [(b, .inr (3, [.int n, .ref t, .ref a]))]) hc d_Kind_init_16 in_Runner ty_Runner tyok_Runner nm_Runner rfl 2 (by decide) (tb1 41 (by decide +kernel) (by decide +kernel)) rfl rfl (tyok_Runner 2 (by decide)) rfl rfl 0 rfl (Nat.le_of_ble_eq_true rfl) rfl ?_
  exact y_ret hc hq d_Kind_init_19 () [0] (by decide) rfl rfl rfl
theorem mk_Kind_6 (g : Gv) (b : Nat) (n : Int32) (t : Nat) (a : Nat) : OkI (S := Unit) g y_Kind_init c_Kind_init 4 1 0 0 [.ref b, .int n, .ref t, .ref a] [(b, .inr (6, [.int 0, .null, .null]))] (fun _ => [(b, .inr (6, [.int n, .ref t, .ref a]))]) := by
  refine OkI.of [(0, .ref b), (1, .int n), (2, .ref t), (3, .ref a)] (by decide) (Nat.le_of_ble_eq_true rfl) rfl ?_
  intro x A Q hc hq
  have hc : Yc x A g c_Kind_init R_Kind 4 none "<init>" 1 0 0 := hc
  refine y_aload_n hc d_Kind_init_0 0 rfl ?_
  refine y_obj hc d_Kind_init_1 (tb1 36 (by decide +kernel) (by decide +kernel)) ob_i ob_c (by decide) (Nat.le_of_ble_eq_true rfl) ?_
  refine y_aload_n hc d_Kind_init_4 0 rfl ?_
  refine y_iload_n hc d_Kind_init_5 1 rfl ?_
  refine y_putF (ci := 6) (ws' := [(b, .inr (6, [.int n, .null, .null]))]) hc d_Kind_init_6 in_Stair ty_Stair tyok_Stair nm_Stair rfl 0 (by decide) (tb1 37 (by decide +kernel) (by decide +kernel)) rfl rfl (tyok_Stair 0 (by decide)) rfl rfl 0 rfl (Nat.le_of_ble_eq_true rfl) rfl ?_
  refine y_aload_n hc d_Kind_init_9 0 rfl ?_
  refine y_aload_n hc d_Kind_init_10 2 rfl ?_
  refine y_putF (ci := 6) (ws' := [(b, .inr (6, [.int n, .ref t, .null]))]) hc d_Kind_init_11 in_Stair ty_Stair tyok_Stair nm_Stair rfl 1 (by decide) (tb1 39 (by decide +kernel) (by decide +kernel)) rfl rfl (tyok_Stair 1 (by decide)) rfl rfl 0 rfl (Nat.le_of_ble_eq_true rfl) rfl ?_
  refine y_aload_n hc d_Kind_init_14 0 rfl ?_
  refine y_aload_n hc d_Kind_init_15 3 rfl ?_
  refine y_putF (ci := 6) (ws' := [(b, .inr (6, [.int n, .ref t, .ref a]))]) hc d_Kind_init_16 in_Stair ty_Stair tyok_Stair nm_Stair rfl 2 (by decide) (tb1 41 (by decide +kernel) (by decide +kernel)) rfl rfl (tyok_Stair 2 (by decide)) rfl rfl 0 rfl (Nat.le_of_ble_eq_true rfl) rfl ?_
  exact y_ret hc hq d_Kind_init_19 () [0] (by decide) rfl rfl rfl
theorem mk_Kind_8 (g : Gv) (b : Nat) (n : Int32) (t : Nat) (a : Nat) : OkI (S := Unit) g y_Kind_init c_Kind_init 4 1 0 0 [.ref b, .int n, .ref t, .ref a] [(b, .inr (8, [.int 0, .null, .null]))] (fun _ => [(b, .inr (8, [.int n, .ref t, .ref a]))]) := by
  refine OkI.of [(0, .ref b), (1, .int n), (2, .ref t), (3, .ref a)] (by decide) (Nat.le_of_ble_eq_true rfl) rfl ?_
  intro x A Q hc hq
  have hc : Yc x A g c_Kind_init R_Kind 4 none "<init>" 1 0 0 := hc
  refine y_aload_n hc d_Kind_init_0 0 rfl ?_
  refine y_obj hc d_Kind_init_1 (tb1 36 (by decide +kernel) (by decide +kernel)) ob_i ob_c (by decide) (Nat.le_of_ble_eq_true rfl) ?_
  refine y_aload_n hc d_Kind_init_4 0 rfl ?_
  refine y_iload_n hc d_Kind_init_5 1 rfl ?_
  refine y_putF (ci := 8) (ws' := [(b, .inr (8, [.int n, .null, .null]))]) hc d_Kind_init_6 in_Velvet ty_Velvet tyok_Velvet nm_Velvet rfl 0 (by decide) (tb1 37 (by decide +kernel) (by decide +kernel)) rfl rfl (tyok_Velvet 0 (by decide)) rfl rfl 0 rfl (Nat.le_of_ble_eq_true rfl) rfl ?_
  refine y_aload_n hc d_Kind_init_9 0 rfl ?_
  refine y_aload_n hc d_Kind_init_10 2 rfl ?_
  refine y_putF (ci := 8) (ws' := [(b, .inr (8, [.int n, .ref t, .null]))]) hc d_Kind_init_11 in_Velvet ty_Velvet tyok_Velvet nm_Velvet rfl 1 (by decide) (tb1 39 (by decide +kernel) (by decide +kernel)) rfl rfl (tyok_Velvet 1 (by decide)) rfl rfl 0 rfl (Nat.le_of_ble_eq_true rfl) rfl ?_
  refine y_aload_n hc d_Kind_init_14 0 rfl ?_
  refine y_aload_n hc d_Kind_init_15 3 rfl ?_
  refine y_putF (ci := 8) (ws' := [(b, .inr (8, [.int n, .ref t, .ref a]))]) hc d_Kind_init_16 in_Velvet ty_Velvet tyok_Velvet nm_Velvet rfl 2 (by decide) (tb1 41 (by decide +kernel) (by decide +kernel)) rfl rfl (tyok_Velvet 2 (by decide)) rfl rfl 0 rfl (Nat.le_of_ble_eq_true rfl) rfl ?_
  exact y_ret hc hq d_Kind_init_19 () [0] (by decide) rfl rfl rfl
theorem mk_Kind_4 (g : Gv) (b : Nat) (n : Int32) (t : Nat) (a : Nat) : OkI (S := Unit) g y_Kind_init c_Kind_init 4 1 0 0 [.ref b, .int n, .ref t, .ref a] [(b, .inr (4, [.int 0, .null, .null]))] (fun _ => [(b, .inr (4, [.int n, .ref t, .ref a]))]) := by
  refine OkI.of [(0, .ref b), (1, .int n), (2, .ref t), (3, .ref a)] (by decide) (Nat.le_of_ble_eq_true rfl) rfl ?_
  intro x A Q hc hq
  have hc : Yc x A g c_Kind_init R_Kind 4 none "<init>" 1 0 0 := hc
  refine y_aload_n hc d_Kind_init_0 0 rfl ?_
  refine y_obj hc d_Kind_init_1 (tb1 36 (by decide +kernel) (by decide +kernel)) ob_i ob_c (by decide) (Nat.le_of_ble_eq_true rfl) ?_
  refine y_aload_n hc d_Kind_init_4 0 rfl ?_
  refine y_iload_n hc d_Kind_init_5 1 rfl ?_
  refine y_putF (ci := 4) (ws' := [(b, .inr (4, [.int n, .null, .null]))]) hc d_Kind_init_6 in_Shag ty_Shag tyok_Shag nm_Shag rfl 0 (by decide) (tb1 37 (by decide +kernel) (by decide +kernel)) rfl rfl (tyok_Shag 0 (by decide)) rfl rfl 0 rfl (Nat.le_of_ble_eq_true rfl) rfl ?_
  refine y_aload_n hc d_Kind_init_9 0 rfl ?_
  refine y_aload_n hc d_Kind_init_10 2 rfl ?_
  refine y_putF (ci := 4) (ws' := [(b, .inr (4, [.int n, .ref t, .null]))]) hc d_Kind_init_11 in_Shag ty_Shag tyok_Shag nm_Shag rfl 1 (by decide) (tb1 39 (by decide +kernel) (by decide +kernel)) rfl rfl (tyok_Shag 1 (by decide)) rfl rfl 0 rfl (Nat.le_of_ble_eq_true rfl) rfl ?_
  refine y_aload_n hc d_Kind_init_14 0 rfl ?_
  refine y_aload_n hc d_Kind_init_15 3 rfl ?_
  refine y_putF (ci := 4) (ws' := [(b, .inr (4, [.int n, .ref t, .ref a]))]) hc d_Kind_init_16 in_Shag ty_Shag tyok_Shag nm_Shag rfl 2 (by decide) (tb1 41 (by decide +kernel) (by decide +kernel)) rfl rfl (tyok_Shag 2 (by decide)) rfl rfl 0 rfl (Nat.le_of_ble_eq_true rfl) rfl ?_
  exact y_ret hc hq d_Kind_init_19 () [0] (by decide) rfl rfl rfl
theorem mk_Kind_1 (g : Gv) (b : Nat) (n : Int32) (t : Nat) (a : Nat) : OkI (S := Unit) g y_Kind_init c_Kind_init 4 1 0 0 [.ref b, .int n, .ref t, .ref a] [(b, .inr (1, [.int 0, .null, .null]))] (fun _ => [(b, .inr (1, [.int n, .ref t, .ref a]))]) := by
  refine OkI.of [(0, .ref b), (1, .int n), (2, .ref t), (3, .ref a)] (by decide) (Nat.le_of_ble_eq_true rfl) rfl ?_
  intro x A Q hc hq
  have hc : Yc x A g c_Kind_init R_Kind 4 none "<init>" 1 0 0 := hc
  refine y_aload_n hc d_Kind_init_0 0 rfl ?_
  refine y_obj hc d_Kind_init_1 (tb1 36 (by decide +kernel) (by decide +kernel)) ob_i ob_c (by decide) (Nat.le_of_ble_eq_true rfl) ?_
  refine y_aload_n hc d_Kind_init_4 0 rfl ?_
  refine y_iload_n hc d_Kind_init_5 1 rfl ?_
  refine y_putF (ci := 1) (ws' := [(b, .inr (1, [.int n, .null, .null]))]) hc d_Kind_init_6 in_Mat ty_Mat tyok_Mat nm_Mat rfl 0 (by decide) (tb1 37 (by decide +kernel) (by decide +kernel)) rfl rfl (tyok_Mat 0 (by decide)) rfl rfl 0 rfl (Nat.le_of_ble_eq_true rfl) rfl ?_
  refine y_aload_n hc d_Kind_init_9 0 rfl ?_
  refine y_aload_n hc d_Kind_init_10 2 rfl ?_
  refine y_putF (ci := 1) (ws' := [(b, .inr (1, [.int n, .ref t, .null]))]) hc d_Kind_init_11 in_Mat ty_Mat tyok_Mat nm_Mat rfl 1 (by decide) (tb1 39 (by decide +kernel) (by decide +kernel)) rfl rfl (tyok_Mat 1 (by decide)) rfl rfl 0 rfl (Nat.le_of_ble_eq_true rfl) rfl ?_
  refine y_aload_n hc d_Kind_init_14 0 rfl ?_
  refine y_aload_n hc d_Kind_init_15 3 rfl ?_
  refine y_putF (ci := 1) (ws' := [(b, .inr (1, [.int n, .ref t, .ref a]))]) hc d_Kind_init_16 in_Mat ty_Mat tyok_Mat nm_Mat rfl 2 (by decide) (tb1 41 (by decide +kernel) (by decide +kernel)) rfl rfl (tyok_Mat 2 (by decide)) rfl rfl 0 rfl (Nat.le_of_ble_eq_true rfl) rfl ?_
  exact y_ret hc hq d_Kind_init_19 () [0] (by decide) rfl rfl rfl
theorem mk_Runner_3 (g : Gv) (b : Nat) (n : Int32) (t : Nat) (a : Nat) : OkI (S := Unit) g y_Runner_init c_Runner_init 4 2 0 0 [.ref b, .int n, .ref t, .ref a] [(b, .inr (3, [.int 0, .null, .null]))] (fun _ => [(b, .inr (3, [.int n, .ref t, .ref a]))]) := by
  refine OkI.of [(0, .ref b), (1, .int n), (2, .ref t), (3, .ref a)] (by decide) (Nat.le_of_ble_eq_true rfl) rfl ?_
  intro x A Q hc hq
  have hc : Yc x A g c_Runner_init R_Runner 4 none "<init>" 2 0 0 := hc
  refine y_aload_n hc d_Runner_init_0 0 rfl ?_
  refine y_iload_n hc d_Runner_init_1 1 rfl ?_
  refine y_aload_n hc d_Runner_init_2 2 rfl ?_
  refine y_aload_n hc d_Runner_init_3 3 rfl ?_
  refine y_init (S := Unit) (wc := [(b, .inr (3, [.int 0, .null, .null]))]) (wr := []) (b := b) (As := [.int n, .ref t, .ref a]) (st := []) (cl' := 0) (sl' := 0) hc d_Runner_init_4 il_Runner_1 (by decide) (mk_Kind_3 g b n t a) [0] [] rfl (by decide) rfl (by decide) (by decide) rfl rfl (Nat.le_of_ble_eq_true rfl) rfl rfl (by decide) (by decide) (fun _ => ?_)
  show Y x A g 4 Q 0 0 7 [(0, .ref b), (1, .int n), (2, .ref t), (3, .ref a)] [] [(b, .inr (3, [.int n, .ref t, .ref a]))]
  exact y_ret hc hq d_Runner_init_7 () [0] (by decide) rfl rfl rfl
theorem mk_Runner_6 (g : Gv) (b : Nat) (n : Int32) (t : Nat) (a : Nat) : OkI (S := Unit) g y_Runner_init c_Runner_init 4 2 0 0 [.ref b, .int n, .ref t, .ref a] [(b, .inr (6, [.int 0, .null, .null]))] (fun _ => [(b, .inr (6, [.int n, .ref t, .ref a]))]) := by
  refine OkI.of [(0, .ref b), (1, .int n), (2, .ref t), (3, .ref a)] (by decide) (Nat.le_of_ble_eq_true rfl) rfl ?_
  intro x A Q hc hq
  have hc : Yc x A g c_Runner_init R_Runner 4 none "<init>" 2 0 0 := hc
  refine y_aload_n hc d_Runner_init_0 0 rfl ?_
  refine y_iload_n hc d_Runner_init_1 1 rfl ?_
  refine y_aload_n hc d_Runner_init_2 2 rfl ?_
  refine y_aload_n hc d_Runner_init_3 3 rfl ?_
  refine y_init (S := Unit) (wc := [(b, .inr (6, [.int 0, .null, .null]))]) (wr := []) (b := b) (As := [.int n, .ref t, .ref a]) (st := []) (cl' := 0) (sl' := 0) hc d_Runner_init_4 il_Runner_1 (by decide) (mk_Kind_6 g b n t a) [0] [] rfl (by decide) rfl (by decide) (by decide) rfl rfl (Nat.le_of_ble_eq_true rfl) rfl rfl (by decide) (by decide) (fun _ => ?_)
  show Y x A g 4 Q 0 0 7 [(0, .ref b), (1, .int n), (2, .ref t), (3, .ref a)] [] [(b, .inr (6, [.int n, .ref t, .ref a]))]
  exact y_ret hc hq d_Runner_init_7 () [0] (by decide) rfl rfl rfl
theorem mk_Velvet_8 (g : Gv) (b : Nat) (n : Int32) (t : Nat) (a : Nat) : OkI (S := Unit) g y_Velvet_init c_Velvet_init 4 2 0 0 [.ref b, .int n, .ref t, .ref a] [(b, .inr (8, [.int 0, .null, .null]))] (fun _ => [(b, .inr (8, [.int n, .ref t, .ref a]))]) := by
  refine OkI.of [(0, .ref b), (1, .int n), (2, .ref t), (3, .ref a)] (by decide) (Nat.le_of_ble_eq_true rfl) rfl ?_
  intro x A Q hc hq
  have hc : Yc x A g c_Velvet_init R_Velvet 4 none "<init>" 2 0 0 := hc
  refine y_aload_n hc d_Velvet_init_0 0 rfl ?_
  refine y_iload_n hc d_Velvet_init_1 1 rfl ?_
  refine y_aload_n hc d_Velvet_init_2 2 rfl ?_
  refine y_aload_n hc d_Velvet_init_3 3 rfl ?_
  refine y_init (S := Unit) (wc := [(b, .inr (8, [.int 0, .null, .null]))]) (wr := []) (b := b) (As := [.int n, .ref t, .ref a]) (st := []) (cl' := 0) (sl' := 0) hc d_Velvet_init_4 il_Velvet_1 (by decide) (mk_Kind_8 g b n t a) [0] [] rfl (by decide) rfl (by decide) (by decide) rfl rfl (Nat.le_of_ble_eq_true rfl) rfl rfl (by decide) (by decide) (fun _ => ?_)
  show Y x A g 4 Q 0 0 7 [(0, .ref b), (1, .int n), (2, .ref t), (3, .ref a)] [] [(b, .inr (8, [.int n, .ref t, .ref a]))]
  exact y_ret hc hq d_Velvet_init_7 () [0] (by decide) rfl rfl rfl
theorem mk_Velvet_4 (g : Gv) (b : Nat) (n : Int32) (t : Nat) (a : Nat) : OkI (S := Unit) g y_Velvet_init c_Velvet_init 4 2 0 0 [.ref b, .int n, .ref t, .ref a] [(b, .inr (4, [.int 0, .null, .null]))] (fun _ => [(b, .inr (4, [.int n, .ref t, .ref a]))]) := by
  refine OkI.of [(0, .ref b), (1, .int n), (2, .ref t), (3, .ref a)] (by decide) (Nat.le_of_ble_eq_true rfl) rfl ?_
  intro x A Q hc hq
  have hc : Yc x A g c_Velvet_init R_Velvet 4 none "<init>" 2 0 0 := hc
  refine y_aload_n hc d_Velvet_init_0 0 rfl ?_
  refine y_iload_n hc d_Velvet_init_1 1 rfl ?_
  refine y_aload_n hc d_Velvet_init_2 2 rfl ?_
  refine y_aload_n hc d_Velvet_init_3 3 rfl ?_
  refine y_init (S := Unit) (wc := [(b, .inr (4, [.int 0, .null, .null]))]) (wr := []) (b := b) (As := [.int n, .ref t, .ref a]) (st := []) (cl' := 0) (sl' := 0) hc d_Velvet_init_4 il_Velvet_1 (by decide) (mk_Kind_4 g b n t a) [0] [] rfl (by decide) rfl (by decide) (by decide) rfl rfl (Nat.le_of_ble_eq_true rfl) rfl rfl (by decide) (by decide) (fun _ => ?_)
  show Y x A g 4 Q 0 0 7 [(0, .ref b), (1, .int n), (2, .ref t), (3, .ref a)] [] [(b, .inr (4, [.int n, .ref t, .ref a]))]
  exact y_ret hc hq d_Velvet_init_7 () [0] (by decide) rfl rfl rfl
theorem mk_Mat_1 (g : Gv) (b : Nat) (n : Int32) (t : Nat) (a : Nat) : OkI (S := Unit) g y_Mat_init c_Mat_init 4 2 0 0 [.ref b, .int n, .ref t, .ref a] [(b, .inr (1, [.int 0, .null, .null]))] (fun _ => [(b, .inr (1, [.int n, .ref t, .ref a]))]) := by
  refine OkI.of [(0, .ref b), (1, .int n), (2, .ref t), (3, .ref a)] (by decide) (Nat.le_of_ble_eq_true rfl) rfl ?_
  intro x A Q hc hq
  have hc : Yc x A g c_Mat_init R_Mat 4 none "<init>" 2 0 0 := hc
  refine y_aload_n hc d_Mat_init_0 0 rfl ?_
  refine y_iload_n hc d_Mat_init_1 1 rfl ?_
  refine y_aload_n hc d_Mat_init_2 2 rfl ?_
  refine y_aload_n hc d_Mat_init_3 3 rfl ?_
  refine y_init (S := Unit) (wc := [(b, .inr (1, [.int 0, .null, .null]))]) (wr := []) (b := b) (As := [.int n, .ref t, .ref a]) (st := []) (cl' := 0) (sl' := 0) hc d_Mat_init_4 il_Mat_1 (by decide) (mk_Kind_1 g b n t a) [0] [] rfl (by decide) rfl (by decide) (by decide) rfl rfl (Nat.le_of_ble_eq_true rfl) rfl rfl (by decide) (by decide) (fun _ => ?_)
  show Y x A g 4 Q 0 0 7 [(0, .ref b), (1, .int n), (2, .ref t), (3, .ref a)] [] [(b, .inr (1, [.int n, .ref t, .ref a]))]
  exact y_ret hc hq d_Mat_init_7 () [0] (by decide) rfl rfl rfl
theorem mk_Stair_6 (g : Gv) (b : Nat) (n : Int32) (t : Nat) (a : Nat) : OkI (S := Unit) g y_Stair_init c_Stair_init 4 3 0 0 [.ref b, .int n, .ref t, .ref a] [(b, .inr (6, [.int 0, .null, .null]))] (fun _ => [(b, .inr (6, [.int n, .ref t, .ref a]))]) := by
  refine OkI.of [(0, .ref b), (1, .int n), (2, .ref t), (3, .ref a)] (by decide) (Nat.le_of_ble_eq_true rfl) rfl ?_
  intro x A Q hc hq
  have hc : Yc x A g c_Stair_init R_Stair 4 none "<init>" 3 0 0 := hc
  refine y_aload_n hc d_Stair_init_0 0 rfl ?_
  refine y_iload_n hc d_Stair_init_1 1 rfl ?_
  refine y_aload_n hc d_Stair_init_2 2 rfl ?_
  refine y_aload_n hc d_Stair_init_3 3 rfl ?_
  refine y_init (S := Unit) (wc := [(b, .inr (6, [.int 0, .null, .null]))]) (wr := []) (b := b) (As := [.int n, .ref t, .ref a]) (st := []) (cl' := 0) (sl' := 0) hc d_Stair_init_4 il_Stair_1 (by decide) (mk_Runner_6 g b n t a) [0] [] rfl (by decide) rfl (by decide) (by decide) rfl rfl (Nat.le_of_ble_eq_true rfl) rfl rfl (by decide) (by decide) (fun _ => ?_)
  show Y x A g 4 Q 0 0 7 [(0, .ref b), (1, .int n), (2, .ref t), (3, .ref a)] [] [(b, .inr (6, [.int n, .ref t, .ref a]))]
  exact y_ret hc hq d_Stair_init_7 () [0] (by decide) rfl rfl rfl
theorem mk_Shag_4 (g : Gv) (b : Nat) (n : Int32) (t : Nat) (a : Nat) : OkI (S := Unit) g y_Shag_init c_Shag_init 4 3 0 0 [.ref b, .int n, .ref t, .ref a] [(b, .inr (4, [.int 0, .null, .null]))] (fun _ => [(b, .inr (4, [.int n, .ref t, .ref a]))]) := by
  refine OkI.of [(0, .ref b), (1, .int n), (2, .ref t), (3, .ref a)] (by decide) (Nat.le_of_ble_eq_true rfl) rfl ?_
  intro x A Q hc hq
  have hc : Yc x A g c_Shag_init R_Shag 4 none "<init>" 3 0 0 := hc
  refine y_aload_n hc d_Shag_init_0 0 rfl ?_
  refine y_iload_n hc d_Shag_init_1 1 rfl ?_
  refine y_aload_n hc d_Shag_init_2 2 rfl ?_
  refine y_aload_n hc d_Shag_init_3 3 rfl ?_
  refine y_init (S := Unit) (wc := [(b, .inr (4, [.int 0, .null, .null]))]) (wr := []) (b := b) (As := [.int n, .ref t, .ref a]) (st := []) (cl' := 0) (sl' := 0) hc d_Shag_init_4 il_Shag_1 (by decide) (mk_Velvet_4 g b n t a) [0] [] rfl (by decide) rfl (by decide) (by decide) rfl rfl (Nat.le_of_ble_eq_true rfl) rfl rfl (by decide) (by decide) (fun _ => ?_)
  show Y x A g 4 Q 0 0 7 [(0, .ref b), (1, .int n), (2, .ref t), (3, .ref a)] [] [(b, .inr (4, [.int n, .ref t, .ref a]))]
  exact y_ret hc hq d_Shag_init_7 () [0] (by decide) rfl rfl rfl
theorem mk_Rug (g : Gv) (b k : Nat) : OkI (S := Unit) g y_Rug_init c_Rug_init 2 1 0 0 [.ref b, .ref k] [(b, .inr (2, [.null, .int 0, .int 0, .int 0, .int 0, .int 0, .int 0]))] (fun _ => [(b, .inr (2, [.ref k, .int 0, .int 0, .int 0, .int 0, .int (-1), .int 0]))]) := by
  refine OkI.of [(0, .ref b), (1, .ref k)] (by decide) (Nat.le_of_ble_eq_true rfl) rfl ?_
  intro x A Q hc hq
  have hc : Yc x A g c_Rug_init R_Rug 2 none "<init>" 1 0 0 := hc
  refine y_aload_n hc d_Rug_init_0 0 rfl ?_
  refine y_obj hc d_Rug_init_1 (tb1 118 (by decide +kernel) (by decide +kernel)) ob_i ob_c (by decide) (Nat.le_of_ble_eq_true rfl) ?_
  refine y_aload_n hc d_Rug_init_4 0 rfl ?_
  refine y_aload_n hc d_Rug_init_5 1 rfl ?_
  refine y_put (ci := 2) (ws' := [(b, .inr (2, [.ref k, .int 0, .int 0, .int 0, .int 0, .int 0, .int 0]))]) hc d_Rug_init_6 in_Rug ty_Rug tyok_Rug nm_Rug rfl 0 (by decide) (tb1 119 (by decide +kernel) (by decide +kernel)) rfl (tyok_Rug 0 (by decide)) rfl rfl 0 rfl (Nat.le_of_ble_eq_true rfl) rfl ?_
  refine y_aload_n hc d_Rug_init_9 0 rfl ?_
  refine y_iconst (v := -1) hc d_Rug_init_10 (by decide) ?_
  refine y_put (ci := 2) (ws' := [(b, .inr (2, [.ref k, .int 0, .int 0, .int 0, .int 0, .int (-1), .int 0]))]) hc d_Rug_init_11 in_Rug ty_Rug tyok_Rug nm_Rug rfl 5 (by decide) (tb1 139 (by decide +kernel) (by decide +kernel)) rfl (tyok_Rug 5 (by decide)) rfl rfl 0 rfl (Nat.le_of_ble_eq_true rfl) rfl ?_
  exact y_ret hc hq d_Rug_init_14 () [0] (by decide) rfl rfl rfl
theorem mk_Sheet (g : Gv) (b : Nat) : OkI (S := Nat) g y_Sheet_init c_Sheet_init 1 1 1 40 [.ref b] [(b, .inr (5, [.null, .int 0, .int 0]))] (fun u => [(b, .inr (5, [.ref u, .int 0, .int 0])), (u, .inl (cLong g, 40, .inr (.inl (fun _ => 0))))]) := by
  refine OkI.of [(0, .ref b)] (by decide) (Nat.le_of_ble_eq_true rfl) rfl ?_
  intro x A Q hc hq
  have hc : Yc x A g c_Sheet_init R_Sheet 1 none "<init>" 1 1 40 := hc
  refine y_aload_n hc d_Sheet_init_0 0 rfl ?_
  refine y_obj hc d_Sheet_init_1 (tb1 230 (by decide +kernel) (by decide +kernel)) ob_i ob_c (by decide) (Nat.le_of_ble_eq_true rfl) ?_
  refine y_aload_n hc d_Sheet_init_4 0 rfl ?_
  refine y_bipush (v := 40) hc d_Sheet_init_5 (by decide) ?_
  refine y_newa (ty := .long) (a0 := (40, .inr (.inl (fun _ => 0)))) (N := 40) (cl' := 1) (sl' := 40) hc d_Sheet_init_7 (tb1 193 (by decide +kernel) (by decide +kernel)) rfl 1 rfl (fun _ _ h => h) (fun _ => rfl) (by decide) (by decide) (by decide) rfl rfl (by decide) (by decide) (fun q0 => ?_)
  show Y x A g 1 Q 1 40 9 [(0, .ref b)] [.ref q0, .ref b] [(b, .inr (5, [.null, .int 0, .int 0])), (q0, .inl (cLong g, 40, .inr (.inl (fun _ => 0))))]
  refine y_putF (ci := 5) (ws' := [(b, .inr (5, [.ref q0, .int 0, .int 0])), (q0, .inl (cLong g, 40, .inr (.inl (fun _ => 0))))]) hc d_Sheet_init_9 in_Sheet ty_Sheet tyok_Sheet nm_Sheet rfl 0 (by decide) (tb1 231 (by decide +kernel) (by decide +kernel)) rfl rfl (tyok_Sheet 0 (by decide)) rfl rfl 0 rfl (Nat.le_of_ble_eq_true rfl) rfl ?_
  exact y_ret hc hq d_Sheet_init_12 q0 [0, 1] (by decide) rfl rfl rfl
theorem mk_Tape (g : Gv) (b : Nat) : OkI (S := Nat) g y_Tape_init c_Tape_init 1 1 1 120 [.ref b] [(b, .inr (7, [.null, .int 0, .int 0, .int 0, .int 0, .int 0]))] (fun u => [(b, .inr (7, [.ref u, .int 0, .int 0, .int 0, .int 0, .int 0])), (u, .inl (cInt g, 120, .inl (fun _ => 0)))]) := by
  refine OkI.of [(0, .ref b)] (by decide) (Nat.le_of_ble_eq_true rfl) rfl ?_
  intro x A Q hc hq
  have hc : Yc x A g c_Tape_init R_Tape 1 none "<init>" 1 1 120 := hc
  refine y_aload_n hc d_Tape_init_0 0 rfl ?_
  refine y_obj hc d_Tape_init_1 (tb1 201 (by decide +kernel) (by decide +kernel)) ob_i ob_c (by decide) (Nat.le_of_ble_eq_true rfl) ?_
  refine y_aload_n hc d_Tape_init_4 0 rfl ?_
  refine y_bipush (v := 120) hc d_Tape_init_5 (by decide) ?_
  refine y_newa (ty := .int) (a0 := (120, .inl (fun _ => 0))) (N := 120) (cl' := 1) (sl' := 120) hc d_Tape_init_7 (tb1 192 (by decide +kernel) (by decide +kernel)) rfl 0 rfl (fun _ _ h => h) (fun _ => rfl) (by decide) (by decide) (by decide) rfl rfl (by decide) (by decide) (fun q0 => ?_)
  show Y x A g 1 Q 1 120 9 [(0, .ref b)] [.ref q0, .ref b] [(b, .inr (7, [.null, .int 0, .int 0, .int 0, .int 0, .int 0])), (q0, .inl (cInt g, 120, .inl (fun _ => 0)))]
  refine y_putF (ci := 7) (ws' := [(b, .inr (7, [.ref q0, .int 0, .int 0, .int 0, .int 0, .int 0])), (q0, .inl (cInt g, 120, .inl (fun _ => 0)))]) hc d_Tape_init_9 in_Tape ty_Tape tyok_Tape nm_Tape rfl 0 (by decide) (tb1 202 (by decide +kernel) (by decide +kernel)) rfl rfl (tyok_Tape 0 (by decide)) rfl rfl 0 rfl (Nat.le_of_ble_eq_true rfl) rfl ?_
  exact y_ret hc hq d_Tape_init_12 q0 [0, 1] (by decide) rfl rfl rfl
theorem mk_World (g : Gv) (b k : Nat) : OkI (S := Nat → Nat) g y_World_init c_World_init 3 2 12 87 [.ref b, .ref k] [(b, .inr (9, [.null, .null, .int 0, .int 0, .int 0, .null, .null, .int 0]))] (fun u => [(b, .inr (9, [.ref (u 0), .ref (u 9), .int 0, .int 0, .int 0, .ref (u 10), .ref (u 11), .int 0])), (u 0, .inl (cRug g, 8, .inr (.inr (.inr (.inr (fun c => some (u (1 + c)))))))), (u 9, .inl (cInt g, 7, .inl (upd (fun _ => 0) 3 1))), (u 10, .inl (cInt g, 8, .inl (fun _ => 0))), (u 11, .inl (cLong g, 8, .inr (.inl (fun _ => 0)))), (u 1, .inr (2, [.ref k, .int 0, .int 0, .int 0, .int 0, .int (-1), .int 0])), (u 2, .inr (2, [.ref k, .int 0, .int 0, .int 0, .int 0, .int (-1), .int 0])), (u 3, .inr (2, [.ref k, .int 0, .int 0, .int 0, .int 0, .int (-1), .int 0])), (u 4, .inr (2, [.ref k, .int 0, .int 0, .int 0, .int 0, .int (-1), .int 0])), (u 5, .inr (2, [.ref k, .int 0, .int 0, .int 0, .int 0, .int (-1), .int 0])), (u 6, .inr (2, [.ref k, .int 0, .int 0, .int 0, .int 0, .int (-1), .int 0])), (u 7, .inr (2, [.ref k, .int 0, .int 0, .int 0, .int 0, .int (-1), .int 0])), (u 8, .inr (2, [.ref k, .int 0, .int 0, .int 0, .int 0, .int (-1), .int 0]))]) := by
  refine OkI.of [(0, .ref b), (1, .ref k)] (by decide) (Nat.le_of_ble_eq_true rfl) rfl ?_
  intro x A Q hc hq
  have hc : Yc x A g c_World_init R_World 3 none "<init>" 2 12 87 := hc
  refine y_aload_n hc d_World_init_0 0 rfl ?_
  refine y_obj hc d_World_init_1 (tb1 111 (by decide +kernel) (by decide +kernel)) ob_i ob_c (by decide) (Nat.le_of_ble_eq_true rfl) ?_
  refine y_aload_n hc d_World_init_4 0 rfl ?_
  refine y_bipush (v := 8) hc d_World_init_5 (by decide) ?_
  refine y_newq (C := "CarpetRealms$Rug") (cA := cRug g) (N := 8) (cl' := 1) (sl' := 8) hc d_World_init_7 (tb1 112 (by decide +kernel) (by decide +kernel)) (fun _ h => h.2.1) 3 rfl (by decide) (by decide) (by decide) rfl rfl (by decide) (by decide) (fun q0 => ?_)
  show Y x A g 3 Q 1 8 10 [(0, .ref b), (1, .ref k)] [.ref q0, .ref b] [(b, .inr (9, [.null, .null, .int 0, .int 0, .int 0, .null, .null, .int 0])), (q0, .inl (cRug g, 8, .inr (.inr (.inr (.inr (fun _ => none))))))]
  refine y_putF (ci := 9) (ws' := [(b, .inr (9, [.ref q0, .null, .int 0, .int 0, .int 0, .null, .null, .int 0])), (q0, .inl (cRug g, 8, .inr (.inr (.inr (.inr (fun _ => none))))))]) hc d_World_init_10 in_World ty_World tyok_World nm_World rfl 0 (by decide) (tb1 159 (by decide +kernel) (by decide +kernel)) rfl rfl (tyok_World 0 (by decide)) rfl rfl 0 rfl (Nat.le_of_ble_eq_true rfl) rfl ?_
  refine y_iconst (v := 0) hc d_World_init_13 (by decide) ?_
  refine y_istore_n (L' := [(2, .int 0), (0, .ref b), (1, .ref k)]) hc d_World_init_14 (by decide) rfl ?_
  refine y_iload_n hc d_World_init_15 0 rfl ?_
  refine y_bipush (v := 8) hc d_World_init_16 (by decide) ?_
  refine y_ge_no 41 hc d_World_init_18 (by decide) (by decide) ?_
  refine y_aload_n hc d_World_init_21 1 rfl ?_
  refine y_get (ci := 9) hc d_World_init_22 in_World rfl 0 (by decide) (tb1 159 (by decide +kernel) (by decide +kernel)) 0 rfl rfl ?_
  refine y_iload_n hc d_World_init_25 0 rfl ?_
  refine y_new (ci := 2) (fs := [.null, .int 0, .int 0, .int 0, .int 0, .int 0, .int 0]) (cl' := 2) (sl' := 15) hc d_World_init_26 in_Rug ty_Rug tyok_Rug rfl (tb1 112 (by decide +kernel) (by decide +kernel)) (tb1 114 (by decide +kernel) (by decide +kernel)) (tb1 9 (by decide +kernel) (by decide +kernel)) (by decide) rfl rfl (by decide) (by decide) (fun q1 => ?_)
  show Y x A g 3 Q 2 15 29 [(2, .int 0), (0, .ref b), (1, .ref k)] [.ref q1, .int 0, .ref q0] [(b, .inr (9, [.ref q0, .null, .int 0, .int 0, .int 0, .null, .null, .int 0])), (q0, .inl (cRug g, 8, .inr (.inr (.inr (.inr (fun _ => none)))))), (q1, .inr (2, [.null, .int 0, .int 0, .int 0, .int 0, .int 0, .int 0]))]
  refine y_dup hc d_World_init_29 rfl ?_
  refine y_aload_n hc d_World_init_30 2 rfl ?_
  refine y_init (S := Unit) (wc := [(q1, .inr (2, [.null, .int 0, .int 0, .int 0, .int 0, .int 0, .int 0]))]) (wr := [(b, .inr (9, [.ref q0, .null, .int 0, .int 0, .int 0, .null, .null, .int 0])), (q0, .inl (cRug g, 8, .inr (.inr (.inr (.inr (fun _ => none))))))]) (b := q1) (As := [.ref k]) (st := [.ref q1, .int 0, .ref q0]) (cl' := 2) (sl' := 15) hc d_World_init_31 il_World_17 (by decide) (mk_Rug g q1 k) [2] [0, 1] rfl (by decide) rfl (by decide) (by decide) rfl rfl (Nat.le_of_ble_eq_true rfl) rfl rfl (by decide) (by decide) (fun _ => ?_)
  show Y x A g 3 Q 2 15 34 [(2, .int 0), (0, .ref b), (1, .ref k)] [.ref q1, .int 0, .ref q0] [(b, .inr (9, [.ref q0, .null, .int 0, .int 0, .int 0, .null, .null, .int 0])), (q0, .inl (cRug g, 8, .inr (.inr (.inr (.inr (fun _ => none)))))), (q1, .inr (2, [.ref k, .int 0, .int 0, .int 0, .int 0, .int (-1), .int 0]))]
  refine y_ast (j := 0) (ws' := [(b, .inr (9, [.ref q0, .null, .int 0, .int 0, .int 0, .null, .null, .int 0])), (q0, .inl (cRug g, 8, .inr (.inr (.inr (.inr (va_up (fun _ => none) 0 (some q1))))))), (q1, .inr (2, [.ref k, .int 0, .int 0, .int 0, .int 0, .int (-1), .int 0]))]) hc d_World_init_34 3 rfl 1 rfl 2 rfl rfl (Or.inl rfl) (by decide) rfl ?_
  refine y_iinc (y := 0) (v := 1) (L' := [(2, .int 1), (0, .ref b), (1, .ref k)]) hc d_World_init_35 0 rfl (by decide) (by decide) rfl ?_
  refine y_goto (tgt := 15) hc d_World_init_38 (by decide) ?_
  refine y_iload_n hc d_World_init_15 0 rfl ?_
  refine y_bipush (v := 8) hc d_World_init_16 (by decide) ?_
  refine y_ge_no 41 hc d_World_init_18 (by decide) (by decide) ?_
  refine y_aload_n hc d_World_init_21 1 rfl ?_
  refine y_get (ci := 9) hc d_World_init_22 in_World rfl 0 (by decide) (tb1 159 (by decide +kernel) (by decide +kernel)) 0 rfl rfl ?_
  refine y_iload_n hc d_World_init_25 0 rfl ?_
  refine y_new (ci := 2) (fs := [.null, .int 0, .int 0, .int 0, .int 0, .int 0, .int 0]) (cl' := 3) (sl' := 22) hc d_World_init_26 in_Rug ty_Rug tyok_Rug rfl (tb1 112 (by decide +kernel) (by decide +kernel)) (tb1 114 (by decide +kernel) (by decide +kernel)) (tb1 9 (by decide +kernel) (by decide +kernel)) (by decide) rfl rfl (by decide) (by decide) (fun q2 => ?_)
  show Y x A g 3 Q 3 22 29 [(2, .int 1), (0, .ref b), (1, .ref k)] [.ref q2, .int 1, .ref q0] [(b, .inr (9, [.ref q0, .null, .int 0, .int 0, .int 0, .null, .null, .int 0])), (q0, .inl (cRug g, 8, .inr (.inr (.inr (.inr (va_up (fun _ => none) 0 (some q1))))))), (q1, .inr (2, [.ref k, .int 0, .int 0, .int 0, .int 0, .int (-1), .int 0])), (q2, .inr (2, [.null, .int 0, .int 0, .int 0, .int 0, .int 0, .int 0]))]
  refine y_dup hc d_World_init_29 rfl ?_
  refine y_aload_n hc d_World_init_30 2 rfl ?_
  refine y_init (S := Unit) (wc := [(q2, .inr (2, [.null, .int 0, .int 0, .int 0, .int 0, .int 0, .int 0]))]) (wr := [(b, .inr (9, [.ref q0, .null, .int 0, .int 0, .int 0, .null, .null, .int 0])), (q0, .inl (cRug g, 8, .inr (.inr (.inr (.inr (va_up (fun _ => none) 0 (some q1))))))), (q1, .inr (2, [.ref k, .int 0, .int 0, .int 0, .int 0, .int (-1), .int 0]))]) (b := q2) (As := [.ref k]) (st := [.ref q2, .int 1, .ref q0]) (cl' := 3) (sl' := 22) hc d_World_init_31 il_World_17 (by decide) (mk_Rug g q2 k) [3] [0, 1, 2] rfl (by decide) rfl (by decide) (by decide) rfl rfl (Nat.le_of_ble_eq_true rfl) rfl rfl (by decide) (by decide) (fun _ => ?_)
  show Y x A g 3 Q 3 22 34 [(2, .int 1), (0, .ref b), (1, .ref k)] [.ref q2, .int 1, .ref q0] [(b, .inr (9, [.ref q0, .null, .int 0, .int 0, .int 0, .null, .null, .int 0])), (q0, .inl (cRug g, 8, .inr (.inr (.inr (.inr (va_up (fun _ => none) 0 (some q1))))))), (q1, .inr (2, [.ref k, .int 0, .int 0, .int 0, .int 0, .int (-1), .int 0])), (q2, .inr (2, [.ref k, .int 0, .int 0, .int 0, .int 0, .int (-1), .int 0]))]
  refine y_ast (j := 1) (ws' := [(b, .inr (9, [.ref q0, .null, .int 0, .int 0, .int 0, .null, .null, .int 0])), (q0, .inl (cRug g, 8, .inr (.inr (.inr (.inr (va_up (va_up (fun _ => none) 0 (some q1)) 1 (some q2))))))), (q1, .inr (2, [.ref k, .int 0, .int 0, .int 0, .int 0, .int (-1), .int 0])), (q2, .inr (2, [.ref k, .int 0, .int 0, .int 0, .int 0, .int (-1), .int 0]))]) hc d_World_init_34 3 rfl 1 rfl 3 rfl rfl (Or.inl rfl) (by decide) rfl ?_
  refine y_iinc (y := 1) (v := 2) (L' := [(2, .int 2), (0, .ref b), (1, .ref k)]) hc d_World_init_35 0 rfl (by decide) (by decide) rfl ?_
  refine y_goto (tgt := 15) hc d_World_init_38 (by decide) ?_
  refine y_iload_n hc d_World_init_15 0 rfl ?_
  refine y_bipush (v := 8) hc d_World_init_16 (by decide) ?_
  refine y_ge_no 41 hc d_World_init_18 (by decide) (by decide) ?_
  refine y_aload_n hc d_World_init_21 1 rfl ?_
  refine y_get (ci := 9) hc d_World_init_22 in_World rfl 0 (by decide) (tb1 159 (by decide +kernel) (by decide +kernel)) 0 rfl rfl ?_
  refine y_iload_n hc d_World_init_25 0 rfl ?_
  refine y_new (ci := 2) (fs := [.null, .int 0, .int 0, .int 0, .int 0, .int 0, .int 0]) (cl' := 4) (sl' := 29) hc d_World_init_26 in_Rug ty_Rug tyok_Rug rfl (tb1 112 (by decide +kernel) (by decide +kernel)) (tb1 114 (by decide +kernel) (by decide +kernel)) (tb1 9 (by decide +kernel) (by decide +kernel)) (by decide) rfl rfl (by decide) (by decide) (fun q3 => ?_)
  show Y x A g 3 Q 4 29 29 [(2, .int 2), (0, .ref b), (1, .ref k)] [.ref q3, .int 2, .ref q0] [(b, .inr (9, [.ref q0, .null, .int 0, .int 0, .int 0, .null, .null, .int 0])), (q0, .inl (cRug g, 8, .inr (.inr (.inr (.inr (va_up (va_up (fun _ => none) 0 (some q1)) 1 (some q2))))))), (q1, .inr (2, [.ref k, .int 0, .int 0, .int 0, .int 0, .int (-1), .int 0])), (q2, .inr (2, [.ref k, .int 0, .int 0, .int 0, .int 0, .int (-1), .int 0])), (q3, .inr (2, [.null, .int 0, .int 0, .int 0, .int 0, .int 0, .int 0]))]
  refine y_dup hc d_World_init_29 rfl ?_
  refine y_aload_n hc d_World_init_30 2 rfl ?_
  refine y_init (S := Unit) (wc := [(q3, .inr (2, [.null, .int 0, .int 0, .int 0, .int 0, .int 0, .int 0]))]) (wr := [(b, .inr (9, [.ref q0, .null, .int 0, .int 0, .int 0, .null, .null, .int 0])), (q0, .inl (cRug g, 8, .inr (.inr (.inr (.inr (va_up (va_up (fun _ => none) 0 (some q1)) 1 (some q2))))))), (q1, .inr (2, [.ref k, .int 0, .int 0, .int 0, .int 0, .int (-1), .int 0])), (q2, .inr (2, [.ref k, .int 0, .int 0, .int 0, .int 0, .int (-1), .int 0]))]) (b := q3) (As := [.ref k]) (st := [.ref q3, .int 2, .ref q0]) (cl' := 4) (sl' := 29) hc d_World_init_31 il_World_17 (by decide) (mk_Rug g q3 k) [4] [0, 1, 2, 3] rfl (by decide) rfl (by decide) (by decide) rfl rfl (Nat.le_of_ble_eq_true rfl) rfl rfl (by decide) (by decide) (fun _ => ?_)
  show Y x A g 3 Q 4 29 34 [(2, .int 2), (0, .ref b), (1, .ref k)] [.ref q3, .int 2, .ref q0] [(b, .inr (9, [.ref q0, .null, .int 0, .int 0, .int 0, .null, .null, .int 0])), (q0, .inl (cRug g, 8, .inr (.inr (.inr (.inr (va_up (va_up (fun _ => none) 0 (some q1)) 1 (some q2))))))), (q1, .inr (2, [.ref k, .int 0, .int 0, .int 0, .int 0, .int (-1), .int 0])), (q2, .inr (2, [.ref k, .int 0, .int 0, .int 0, .int 0, .int (-1), .int 0])), (q3, .inr (2, [.ref k, .int 0, .int 0, .int 0, .int 0, .int (-1), .int 0]))]
  refine y_ast (j := 2) (ws' := [(b, .inr (9, [.ref q0, .null, .int 0, .int 0, .int 0, .null, .null, .int 0])), (q0, .inl (cRug g, 8, .inr (.inr (.inr (.inr (va_up (va_up (va_up (fun _ => none) 0 (some q1)) 1 (some q2)) 2 (some q3))))))), (q1, .inr (2, [.ref k, .int 0, .int 0, .int 0, .int 0, .int (-1), .int 0])), (q2, .inr (2, [.ref k, .int 0, .int 0, .int 0, .int 0, .int (-1), .int 0])), (q3, .inr (2, [.ref k, .int 0, .int 0, .int 0, .int 0, .int (-1), .int 0]))]) hc d_World_init_34 3 rfl 1 rfl 4 rfl rfl (Or.inl rfl) (by decide) rfl ?_
  refine y_iinc (y := 2) (v := 3) (L' := [(2, .int 3), (0, .ref b), (1, .ref k)]) hc d_World_init_35 0 rfl (by decide) (by decide) rfl ?_
  refine y_goto (tgt := 15) hc d_World_init_38 (by decide) ?_
  refine y_iload_n hc d_World_init_15 0 rfl ?_
  refine y_bipush (v := 8) hc d_World_init_16 (by decide) ?_
  refine y_ge_no 41 hc d_World_init_18 (by decide) (by decide) ?_
  refine y_aload_n hc d_World_init_21 1 rfl ?_
  refine y_get (ci := 9) hc d_World_init_22 in_World rfl 0 (by decide) (tb1 159 (by decide +kernel) (by decide +kernel)) 0 rfl rfl ?_
  refine y_iload_n hc d_World_init_25 0 rfl ?_
  refine y_new (ci := 2) (fs := [.null, .int 0, .int 0, .int 0, .int 0, .int 0, .int 0]) (cl' := 5) (sl' := 36) hc d_World_init_26 in_Rug ty_Rug tyok_Rug rfl (tb1 112 (by decide +kernel) (by decide +kernel)) (tb1 114 (by decide +kernel) (by decide +kernel)) (tb1 9 (by decide +kernel) (by decide +kernel)) (by decide) rfl rfl (by decide) (by decide) (fun q4 => ?_)
  show Y x A g 3 Q 5 36 29 [(2, .int 3), (0, .ref b), (1, .ref k)] [.ref q4, .int 3, .ref q0] [(b, .inr (9, [.ref q0, .null, .int 0, .int 0, .int 0, .null, .null, .int 0])), (q0, .inl (cRug g, 8, .inr (.inr (.inr (.inr (va_up (va_up (va_up (fun _ => none) 0 (some q1)) 1 (some q2)) 2 (some q3))))))), (q1, .inr (2, [.ref k, .int 0, .int 0, .int 0, .int 0, .int (-1), .int 0])), (q2, .inr (2, [.ref k, .int 0, .int 0, .int 0, .int 0, .int (-1), .int 0])), (q3, .inr (2, [.ref k, .int 0, .int 0, .int 0, .int 0, .int (-1), .int 0])), (q4, .inr (2, [.null, .int 0, .int 0, .int 0, .int 0, .int 0, .int 0]))]
  refine y_dup hc d_World_init_29 rfl ?_
  refine y_aload_n hc d_World_init_30 2 rfl ?_
  refine y_init (S := Unit) (wc := [(q4, .inr (2, [.null, .int 0, .int 0, .int 0, .int 0, .int 0, .int 0]))]) (wr := [(b, .inr (9, [.ref q0, .null, .int 0, .int 0, .int 0, .null, .null, .int 0])), (q0, .inl (cRug g, 8, .inr (.inr (.inr (.inr (va_up (va_up (va_up (fun _ => none) 0 (some q1)) 1 (some q2)) 2 (some q3))))))), (q1, .inr (2, [.ref k, .int 0, .int 0, .int 0, .int 0, .int (-1), .int 0])), (q2, .inr (2, [.ref k, .int 0, .int 0, .int 0, .int 0, .int (-1), .int 0])), (q3, .inr (2, [.ref k, .int 0, .int 0, .int 0, .int 0, .int (-1), .int 0]))]) (b := q4) (As := [.ref k]) (st := [.ref q4, .int 3, .ref q0]) (cl' := 5) (sl' := 36) hc d_World_init_31 il_World_17 (by decide) (mk_Rug g q4 k) [5] [0, 1, 2, 3, 4] rfl (by decide) rfl (by decide) (by decide) rfl rfl (Nat.le_of_ble_eq_true rfl) rfl rfl (by decide) (by decide) (fun _ => ?_)
  show Y x A g 3 Q 5 36 34 [(2, .int 3), (0, .ref b), (1, .ref k)] [.ref q4, .int 3, .ref q0] [(b, .inr (9, [.ref q0, .null, .int 0, .int 0, .int 0, .null, .null, .int 0])), (q0, .inl (cRug g, 8, .inr (.inr (.inr (.inr (va_up (va_up (va_up (fun _ => none) 0 (some q1)) 1 (some q2)) 2 (some q3))))))), (q1, .inr (2, [.ref k, .int 0, .int 0, .int 0, .int 0, .int (-1), .int 0])), (q2, .inr (2, [.ref k, .int 0, .int 0, .int 0, .int 0, .int (-1), .int 0])), (q3, .inr (2, [.ref k, .int 0, .int 0, .int 0, .int 0, .int (-1), .int 0])), (q4, .inr (2, [.ref k, .int 0, .int 0, .int 0, .int 0, .int (-1), .int 0]))]
  refine y_ast (j := 3) (ws' := [(b, .inr (9, [.ref q0, .null, .int 0, .int 0, .int 0, .null, .null, .int 0])), (q0, .inl (cRug g, 8, .inr (.inr (.inr (.inr (va_up (va_up (va_up (va_up (fun _ => none) 0 (some q1)) 1 (some q2)) 2 (some q3)) 3 (some q4))))))), (q1, .inr (2, [.ref k, .int 0, .int 0, .int 0, .int 0, .int (-1), .int 0])), (q2, .inr (2, [.ref k, .int 0, .int 0, .int 0, .int 0, .int (-1), .int 0])), (q3, .inr (2, [.ref k, .int 0, .int 0, .int 0, .int 0, .int (-1), .int 0])), (q4, .inr (2, [.ref k, .int 0, .int 0, .int 0, .int 0, .int (-1), .int 0]))]) hc d_World_init_34 3 rfl 1 rfl 5 rfl rfl (Or.inl rfl) (by decide) rfl ?_
  refine y_iinc (y := 3) (v := 4) (L' := [(2, .int 4), (0, .ref b), (1, .ref k)]) hc d_World_init_35 0 rfl (by decide) (by decide) rfl ?_
  refine y_goto (tgt := 15) hc d_World_init_38 (by decide) ?_
  refine y_iload_n hc d_World_init_15 0 rfl ?_
  refine y_bipush (v := 8) hc d_World_init_16 (by decide) ?_
  refine y_ge_no 41 hc d_World_init_18 (by decide) (by decide) ?_
  refine y_aload_n hc d_World_init_21 1 rfl ?_
  refine y_get (ci := 9) hc d_World_init_22 in_World rfl 0 (by decide) (tb1 159 (by decide +kernel) (by decide +kernel)) 0 rfl rfl ?_
  refine y_iload_n hc d_World_init_25 0 rfl ?_
  refine y_new (ci := 2) (fs := [.null, .int 0, .int 0, .int 0, .int 0, .int 0, .int 0]) (cl' := 6) (sl' := 43) hc d_World_init_26 in_Rug ty_Rug tyok_Rug rfl (tb1 112 (by decide +kernel) (by decide +kernel)) (tb1 114 (by decide +kernel) (by decide +kernel)) (tb1 9 (by decide +kernel) (by decide +kernel)) (by decide) rfl rfl (by decide) (by decide) (fun q5 => ?_)
  show Y x A g 3 Q 6 43 29 [(2, .int 4), (0, .ref b), (1, .ref k)] [.ref q5, .int 4, .ref q0] [(b, .inr (9, [.ref q0, .null, .int 0, .int 0, .int 0, .null, .null, .int 0])), (q0, .inl (cRug g, 8, .inr (.inr (.inr (.inr (va_up (va_up (va_up (va_up (fun _ => none) 0 (some q1)) 1 (some q2)) 2 (some q3)) 3 (some q4))))))), (q1, .inr (2, [.ref k, .int 0, .int 0, .int 0, .int 0, .int (-1), .int 0])), (q2, .inr (2, [.ref k, .int 0, .int 0, .int 0, .int 0, .int (-1), .int 0])), (q3, .inr (2, [.ref k, .int 0, .int 0, .int 0, .int 0, .int (-1), .int 0])), (q4, .inr (2, [.ref k, .int 0, .int 0, .int 0, .int 0, .int (-1), .int 0])), (q5, .inr (2, [.null, .int 0, .int 0, .int 0, .int 0, .int 0, .int 0]))]
  refine y_dup hc d_World_init_29 rfl ?_
  refine y_aload_n hc d_World_init_30 2 rfl ?_
  refine y_init (S := Unit) (wc := [(q5, .inr (2, [.null, .int 0, .int 0, .int 0, .int 0, .int 0, .int 0]))]) (wr := [(b, .inr (9, [.ref q0, .null, .int 0, .int 0, .int 0, .null, .null, .int 0])), (q0, .inl (cRug g, 8, .inr (.inr (.inr (.inr (va_up (va_up (va_up (va_up (fun _ => none) 0 (some q1)) 1 (some q2)) 2 (some q3)) 3 (some q4))))))), (q1, .inr (2, [.ref k, .int 0, .int 0, .int 0, .int 0, .int (-1), .int 0])), (q2, .inr (2, [.ref k, .int 0, .int 0, .int 0, .int 0, .int (-1), .int 0])), (q3, .inr (2, [.ref k, .int 0, .int 0, .int 0, .int 0, .int (-1), .int 0])), (q4, .inr (2, [.ref k, .int 0, .int 0, .int 0, .int 0, .int (-1), .int 0]))]) (b := q5) (As := [.ref k]) (st := [.ref q5, .int 4, .ref q0]) (cl' := 6) (sl' := 43) hc d_World_init_31 il_World_17 (by decide) (mk_Rug g q5 k) [6] [0, 1, 2, 3, 4, 5] rfl (by decide) rfl (by decide) (by decide) rfl rfl (Nat.le_of_ble_eq_true rfl) rfl rfl (by decide) (by decide) (fun _ => ?_)
  show Y x A g 3 Q 6 43 34 [(2, .int 4), (0, .ref b), (1, .ref k)] [.ref q5, .int 4, .ref q0] [(b, .inr (9, [.ref q0, .null, .int 0, .int 0, .int 0, .null, .null, .int 0])), (q0, .inl (cRug g, 8, .inr (.inr (.inr (.inr (va_up (va_up (va_up (va_up (fun _ => none) 0 (some q1)) 1 (some q2)) 2 (some q3)) 3 (some q4))))))), (q1, .inr (2, [.ref k, .int 0, .int 0, .int 0, .int 0, .int (-1), .int 0])), (q2, .inr (2, [.ref k, .int 0, .int 0, .int 0, .int 0, .int (-1), .int 0])), (q3, .inr (2, [.ref k, .int 0, .int 0, .int 0, .int 0, .int (-1), .int 0])), (q4, .inr (2, [.ref k, .int 0, .int 0, .int 0, .int 0, .int (-1), .int 0])), (q5, .inr (2, [.ref k, .int 0, .int 0, .int 0, .int 0, .int (-1), .int 0]))]
  refine y_ast (j := 4) (ws' := [(b, .inr (9, [.ref q0, .null, .int 0, .int 0, .int 0, .null, .null, .int 0])), (q0, .inl (cRug g, 8, .inr (.inr (.inr (.inr (va_up (va_up (va_up (va_up (va_up (fun _ => none) 0 (some q1)) 1 (some q2)) 2 (some q3)) 3 (some q4)) 4 (some q5))))))), (q1, .inr (2, [.ref k, .int 0, .int 0, .int 0, .int 0, .int (-1), .int 0])), (q2, .inr (2, [.ref k, .int 0, .int 0, .int 0, .int 0, .int (-1), .int 0])), (q3, .inr (2, [.ref k, .int 0, .int 0, .int 0, .int 0, .int (-1), .int 0])), (q4, .inr (2, [.ref k, .int 0, .int 0, .int 0, .int 0, .int (-1), .int 0])), (q5, .inr (2, [.ref k, .int 0, .int 0, .int 0, .int 0, .int (-1), .int 0]))]) hc d_World_init_34 3 rfl 1 rfl 6 rfl rfl (Or.inl rfl) (by decide) rfl ?_
  refine y_iinc (y := 4) (v := 5) (L' := [(2, .int 5), (0, .ref b), (1, .ref k)]) hc d_World_init_35 0 rfl (by decide) (by decide) rfl ?_
  refine y_goto (tgt := 15) hc d_World_init_38 (by decide) ?_
  refine y_iload_n hc d_World_init_15 0 rfl ?_
  refine y_bipush (v := 8) hc d_World_init_16 (by decide) ?_
  refine y_ge_no 41 hc d_World_init_18 (by decide) (by decide) ?_
  refine y_aload_n hc d_World_init_21 1 rfl ?_
  refine y_get (ci := 9) hc d_World_init_22 in_World rfl 0 (by decide) (tb1 159 (by decide +kernel) (by decide +kernel)) 0 rfl rfl ?_
  refine y_iload_n hc d_World_init_25 0 rfl ?_
  refine y_new (ci := 2) (fs := [.null, .int 0, .int 0, .int 0, .int 0, .int 0, .int 0]) (cl' := 7) (sl' := 50) hc d_World_init_26 in_Rug ty_Rug tyok_Rug rfl (tb1 112 (by decide +kernel) (by decide +kernel)) (tb1 114 (by decide +kernel) (by decide +kernel)) (tb1 9 (by decide +kernel) (by decide +kernel)) (by decide) rfl rfl (by decide) (by decide) (fun q6 => ?_)
  show Y x A g 3 Q 7 50 29 [(2, .int 5), (0, .ref b), (1, .ref k)] [.ref q6, .int 5, .ref q0] [(b, .inr (9, [.ref q0, .null, .int 0, .int 0, .int 0, .null, .null, .int 0])), (q0, .inl (cRug g, 8, .inr (.inr (.inr (.inr (va_up (va_up (va_up (va_up (va_up (fun _ => none) 0 (some q1)) 1 (some q2)) 2 (some q3)) 3 (some q4)) 4 (some q5))))))), (q1, .inr (2, [.ref k, .int 0, .int 0, .int 0, .int 0, .int (-1), .int 0])), (q2, .inr (2, [.ref k, .int 0, .int 0, .int 0, .int 0, .int (-1), .int 0])), (q3, .inr (2, [.ref k, .int 0, .int 0, .int 0, .int 0, .int (-1), .int 0])), (q4, .inr (2, [.ref k, .int 0, .int 0, .int 0, .int 0, .int (-1), .int 0])), (q5, .inr (2, [.ref k, .int 0, .int 0, .int 0, .int 0, .int (-1), .int 0])), (q6, .inr (2, [.null, .int 0, .int 0, .int 0, .int 0, .int 0, .int 0]))]
  refine y_dup hc d_World_init_29 rfl ?_
  refine y_aload_n hc d_World_init_30 2 rfl ?_
  refine y_init (S := Unit) (wc := [(q6, .inr (2, [.null, .int 0, .int 0, .int 0, .int 0, .int 0, .int 0]))]) (wr := [(b, .inr (9, [.ref q0, .null, .int 0, .int 0, .int 0, .null, .null, .int 0])), (q0, .inl (cRug g, 8, .inr (.inr (.inr (.inr (va_up (va_up (va_up (va_up (va_up (fun _ => none) 0 (some q1)) 1 (some q2)) 2 (some q3)) 3 (some q4)) 4 (some q5))))))), (q1, .inr (2, [.ref k, .int 0, .int 0, .int 0, .int 0, .int (-1), .int 0])), (q2, .inr (2, [.ref k, .int 0, .int 0, .int 0, .int 0, .int (-1), .int 0])), (q3, .inr (2, [.ref k, .int 0, .int 0, .int 0, .int 0, .int (-1), .int 0])), (q4, .inr (2, [.ref k, .int 0, .int 0, .int 0, .int 0, .int (-1), .int 0])), (q5, .inr (2, [.ref k, .int 0, .int 0, .int 0, .int 0, .int (-1), .int 0]))]) (b := q6) (As := [.ref k]) (st := [.ref q6, .int 5, .ref q0]) (cl' := 7) (sl' := 50) hc d_World_init_31 il_World_17 (by decide) (mk_Rug g q6 k) [7] [0, 1, 2, 3, 4, 5, 6] rfl (by decide) rfl (by decide) (by decide) rfl rfl (Nat.le_of_ble_eq_true rfl) rfl rfl (by decide) (by decide) (fun _ => ?_)
  show Y x A g 3 Q 7 50 34 [(2, .int 5), (0, .ref b), (1, .ref k)] [.ref q6, .int 5, .ref q0] [(b, .inr (9, [.ref q0, .null, .int 0, .int 0, .int 0, .null, .null, .int 0])), (q0, .inl (cRug g, 8, .inr (.inr (.inr (.inr (va_up (va_up (va_up (va_up (va_up (fun _ => none) 0 (some q1)) 1 (some q2)) 2 (some q3)) 3 (some q4)) 4 (some q5))))))), (q1, .inr (2, [.ref k, .int 0, .int 0, .int 0, .int 0, .int (-1), .int 0])), (q2, .inr (2, [.ref k, .int 0, .int 0, .int 0, .int 0, .int (-1), .int 0])), (q3, .inr (2, [.ref k, .int 0, .int 0, .int 0, .int 0, .int (-1), .int 0])), (q4, .inr (2, [.ref k, .int 0, .int 0, .int 0, .int 0, .int (-1), .int 0])), (q5, .inr (2, [.ref k, .int 0, .int 0, .int 0, .int 0, .int (-1), .int 0])), (q6, .inr (2, [.ref k, .int 0, .int 0, .int 0, .int 0, .int (-1), .int 0]))]
  refine y_ast (j := 5) (ws' := [(b, .inr (9, [.ref q0, .null, .int 0, .int 0, .int 0, .null, .null, .int 0])), (q0, .inl (cRug g, 8, .inr (.inr (.inr (.inr (va_up (va_up (va_up (va_up (va_up (va_up (fun _ => none) 0 (some q1)) 1 (some q2)) 2 (some q3)) 3 (some q4)) 4 (some q5)) 5 (some q6))))))), (q1, .inr (2, [.ref k, .int 0, .int 0, .int 0, .int 0, .int (-1), .int 0])), (q2, .inr (2, [.ref k, .int 0, .int 0, .int 0, .int 0, .int (-1), .int 0])), (q3, .inr (2, [.ref k, .int 0, .int 0, .int 0, .int 0, .int (-1), .int 0])), (q4, .inr (2, [.ref k, .int 0, .int 0, .int 0, .int 0, .int (-1), .int 0])), (q5, .inr (2, [.ref k, .int 0, .int 0, .int 0, .int 0, .int (-1), .int 0])), (q6, .inr (2, [.ref k, .int 0, .int 0, .int 0, .int 0, .int (-1), .int 0]))]) hc d_World_init_34 3 rfl 1 rfl 7 rfl rfl (Or.inl rfl) (by decide) rfl ?_
  refine y_iinc (y := 5) (v := 6) (L' := [(2, .int 6), (0, .ref b), (1, .ref k)]) hc d_World_init_35 0 rfl (by decide) (by decide) rfl ?_
  refine y_goto (tgt := 15) hc d_World_init_38 (by decide) ?_
  refine y_iload_n hc d_World_init_15 0 rfl ?_
  refine y_bipush (v := 8) hc d_World_init_16 (by decide) ?_
  refine y_ge_no 41 hc d_World_init_18 (by decide) (by decide) ?_
  refine y_aload_n hc d_World_init_21 1 rfl ?_
  refine y_get (ci := 9) hc d_World_init_22 in_World rfl 0 (by decide) (tb1 159 (by decide +kernel) (by decide +kernel)) 0 rfl rfl ?_
  refine y_iload_n hc d_World_init_25 0 rfl ?_
  refine y_new (ci := 2) (fs := [.null, .int 0, .int 0, .int 0, .int 0, .int 0, .int 0]) (cl' := 8) (sl' := 57) hc d_World_init_26 in_Rug ty_Rug tyok_Rug rfl (tb1 112 (by decide +kernel) (by decide +kernel)) (tb1 114 (by decide +kernel) (by decide +kernel)) (tb1 9 (by decide +kernel) (by decide +kernel)) (by decide) rfl rfl (by decide) (by decide) (fun q7 => ?_)
  show Y x A g 3 Q 8 57 29 [(2, .int 6), (0, .ref b), (1, .ref k)] [.ref q7, .int 6, .ref q0] [(b, .inr (9, [.ref q0, .null, .int 0, .int 0, .int 0, .null, .null, .int 0])), (q0, .inl (cRug g, 8, .inr (.inr (.inr (.inr (va_up (va_up (va_up (va_up (va_up (va_up (fun _ => none) 0 (some q1)) 1 (some q2)) 2 (some q3)) 3 (some q4)) 4 (some q5)) 5 (some q6))))))), (q1, .inr (2, [.ref k, .int 0, .int 0, .int 0, .int 0, .int (-1), .int 0])), (q2, .inr (2, [.ref k, .int 0, .int 0, .int 0, .int 0, .int (-1), .int 0])), (q3, .inr (2, [.ref k, .int 0, .int 0, .int 0, .int 0, .int (-1), .int 0])), (q4, .inr (2, [.ref k, .int 0, .int 0, .int 0, .int 0, .int (-1), .int 0])), (q5, .inr (2, [.ref k, .int 0, .int 0, .int 0, .int 0, .int (-1), .int 0])), (q6, .inr (2, [.ref k, .int 0, .int 0, .int 0, .int 0, .int (-1), .int 0])), (q7, .inr (2, [.null, .int 0, .int 0, .int 0, .int 0, .int 0, .int 0]))]
  refine y_dup hc d_World_init_29 rfl ?_
  refine y_aload_n hc d_World_init_30 2 rfl ?_
  refine y_init (S := Unit) (wc := [(q7, .inr (2, [.null, .int 0, .int 0, .int 0, .int 0, .int 0, .int 0]))]) (wr := [(b, .inr (9, [.ref q0, .null, .int 0, .int 0, .int 0, .null, .null, .int 0])), (q0, .inl (cRug g, 8, .inr (.inr (.inr (.inr (va_up (va_up (va_up (va_up (va_up (va_up (fun _ => none) 0 (some q1)) 1 (some q2)) 2 (some q3)) 3 (some q4)) 4 (some q5)) 5 (some q6))))))), (q1, .inr (2, [.ref k, .int 0, .int 0, .int 0, .int 0, .int (-1), .int 0])), (q2, .inr (2, [.ref k, .int 0, .int 0, .int 0, .int 0, .int (-1), .int 0])), (q3, .inr (2, [.ref k, .int 0, .int 0, .int 0, .int 0, .int (-1), .int 0])), (q4, .inr (2, [.ref k, .int 0, .int 0, .int 0, .int 0, .int (-1), .int 0])), (q5, .inr (2, [.ref k, .int 0, .int 0, .int 0, .int 0, .int (-1), .int 0])), (q6, .inr (2, [.ref k, .int 0, .int 0, .int 0, .int 0, .int (-1), .int 0]))]) (b := q7) (As := [.ref k]) (st := [.ref q7, .int 6, .ref q0]) (cl' := 8) (sl' := 57) hc d_World_init_31 il_World_17 (by decide) (mk_Rug g q7 k) [8] [0, 1, 2, 3, 4, 5, 6, 7] rfl (by decide) rfl (by decide) (by decide) rfl rfl (Nat.le_of_ble_eq_true rfl) rfl rfl (by decide) (by decide) (fun _ => ?_)
  show Y x A g 3 Q 8 57 34 [(2, .int 6), (0, .ref b), (1, .ref k)] [.ref q7, .int 6, .ref q0] [(b, .inr (9, [.ref q0, .null, .int 0, .int 0, .int 0, .null, .null, .int 0])), (q0, .inl (cRug g, 8, .inr (.inr (.inr (.inr (va_up (va_up (va_up (va_up (va_up (va_up (fun _ => none) 0 (some q1)) 1 (some q2)) 2 (some q3)) 3 (some q4)) 4 (some q5)) 5 (some q6))))))), (q1, .inr (2, [.ref k, .int 0, .int 0, .int 0, .int 0, .int (-1), .int 0])), (q2, .inr (2, [.ref k, .int 0, .int 0, .int 0, .int 0, .int (-1), .int 0])), (q3, .inr (2, [.ref k, .int 0, .int 0, .int 0, .int 0, .int (-1), .int 0])), (q4, .inr (2, [.ref k, .int 0, .int 0, .int 0, .int 0, .int (-1), .int 0])), (q5, .inr (2, [.ref k, .int 0, .int 0, .int 0, .int 0, .int (-1), .int 0])), (q6, .inr (2, [.ref k, .int 0, .int 0, .int 0, .int 0, .int (-1), .int 0])), (q7, .inr (2, [.ref k, .int 0, .int 0, .int 0, .int 0, .int (-1), .int 0]))]
  refine y_ast (j := 6) (ws' := [(b, .inr (9, [.ref q0, .null, .int 0, .int 0, .int 0, .null, .null, .int 0])), (q0, .inl (cRug g, 8, .inr (.inr (.inr (.inr (va_up (va_up (va_up (va_up (va_up (va_up (va_up (fun _ => none) 0 (some q1)) 1 (some q2)) 2 (some q3)) 3 (some q4)) 4 (some q5)) 5 (some q6)) 6 (some q7))))))), (q1, .inr (2, [.ref k, .int 0, .int 0, .int 0, .int 0, .int (-1), .int 0])), (q2, .inr (2, [.ref k, .int 0, .int 0, .int 0, .int 0, .int (-1), .int 0])), (q3, .inr (2, [.ref k, .int 0, .int 0, .int 0, .int 0, .int (-1), .int 0])), (q4, .inr (2, [.ref k, .int 0, .int 0, .int 0, .int 0, .int (-1), .int 0])), (q5, .inr (2, [.ref k, .int 0, .int 0, .int 0, .int 0, .int (-1), .int 0])), (q6, .inr (2, [.ref k, .int 0, .int 0, .int 0, .int 0, .int (-1), .int 0])), (q7, .inr (2, [.ref k, .int 0, .int 0, .int 0, .int 0, .int (-1), .int 0]))]) hc d_World_init_34 3 rfl 1 rfl 8 rfl rfl (Or.inl rfl) (by decide) rfl ?_
  refine y_iinc (y := 6) (v := 7) (L' := [(2, .int 7), (0, .ref b), (1, .ref k)]) hc d_World_init_35 0 rfl (by decide) (by decide) rfl ?_
  refine y_goto (tgt := 15) hc d_World_init_38 (by decide) ?_
  refine y_iload_n hc d_World_init_15 0 rfl ?_
  refine y_bipush (v := 8) hc d_World_init_16 (by decide) ?_
  refine y_ge_no 41 hc d_World_init_18 (by decide) (by decide) ?_
  refine y_aload_n hc d_World_init_21 1 rfl ?_
  refine y_get (ci := 9) hc d_World_init_22 in_World rfl 0 (by decide) (tb1 159 (by decide +kernel) (by decide +kernel)) 0 rfl rfl ?_
  refine y_iload_n hc d_World_init_25 0 rfl ?_
  refine y_new (ci := 2) (fs := [.null, .int 0, .int 0, .int 0, .int 0, .int 0, .int 0]) (cl' := 9) (sl' := 64) hc d_World_init_26 in_Rug ty_Rug tyok_Rug rfl (tb1 112 (by decide +kernel) (by decide +kernel)) (tb1 114 (by decide +kernel) (by decide +kernel)) (tb1 9 (by decide +kernel) (by decide +kernel)) (by decide) rfl rfl (by decide) (by decide) (fun q8 => ?_)
  show Y x A g 3 Q 9 64 29 [(2, .int 7), (0, .ref b), (1, .ref k)] [.ref q8, .int 7, .ref q0] [(b, .inr (9, [.ref q0, .null, .int 0, .int 0, .int 0, .null, .null, .int 0])), (q0, .inl (cRug g, 8, .inr (.inr (.inr (.inr (va_up (va_up (va_up (va_up (va_up (va_up (va_up (fun _ => none) 0 (some q1)) 1 (some q2)) 2 (some q3)) 3 (some q4)) 4 (some q5)) 5 (some q6)) 6 (some q7))))))), (q1, .inr (2, [.ref k, .int 0, .int 0, .int 0, .int 0, .int (-1), .int 0])), (q2, .inr (2, [.ref k, .int 0, .int 0, .int 0, .int 0, .int (-1), .int 0])), (q3, .inr (2, [.ref k, .int 0, .int 0, .int 0, .int 0, .int (-1), .int 0])), (q4, .inr (2, [.ref k, .int 0, .int 0, .int 0, .int 0, .int (-1), .int 0])), (q5, .inr (2, [.ref k, .int 0, .int 0, .int 0, .int 0, .int (-1), .int 0])), (q6, .inr (2, [.ref k, .int 0, .int 0, .int 0, .int 0, .int (-1), .int 0])), (q7, .inr (2, [.ref k, .int 0, .int 0, .int 0, .int 0, .int (-1), .int 0])), (q8, .inr (2, [.null, .int 0, .int 0, .int 0, .int 0, .int 0, .int 0]))]
  refine y_dup hc d_World_init_29 rfl ?_
  refine y_aload_n hc d_World_init_30 2 rfl ?_
  refine y_init (S := Unit) (wc := [(q8, .inr (2, [.null, .int 0, .int 0, .int 0, .int 0, .int 0, .int 0]))]) (wr := [(b, .inr (9, [.ref q0, .null, .int 0, .int 0, .int 0, .null, .null, .int 0])), (q0, .inl (cRug g, 8, .inr (.inr (.inr (.inr (va_up (va_up (va_up (va_up (va_up (va_up (va_up (fun _ => none) 0 (some q1)) 1 (some q2)) 2 (some q3)) 3 (some q4)) 4 (some q5)) 5 (some q6)) 6 (some q7))))))), (q1, .inr (2, [.ref k, .int 0, .int 0, .int 0, .int 0, .int (-1), .int 0])), (q2, .inr (2, [.ref k, .int 0, .int 0, .int 0, .int 0, .int (-1), .int 0])), (q3, .inr (2, [.ref k, .int 0, .int 0, .int 0, .int 0, .int (-1), .int 0])), (q4, .inr (2, [.ref k, .int 0, .int 0, .int 0, .int 0, .int (-1), .int 0])), (q5, .inr (2, [.ref k, .int 0, .int 0, .int 0, .int 0, .int (-1), .int 0])), (q6, .inr (2, [.ref k, .int 0, .int 0, .int 0, .int 0, .int (-1), .int 0])), (q7, .inr (2, [.ref k, .int 0, .int 0, .int 0, .int 0, .int (-1), .int 0]))]) (b := q8) (As := [.ref k]) (st := [.ref q8, .int 7, .ref q0]) (cl' := 9) (sl' := 64) hc d_World_init_31 il_World_17 (by decide) (mk_Rug g q8 k) [9] [0, 1, 2, 3, 4, 5, 6, 7, 8] rfl (by decide) rfl (by decide) (by decide) rfl rfl (Nat.le_of_ble_eq_true rfl) rfl rfl (by decide) (by decide) (fun _ => ?_)
  show Y x A g 3 Q 9 64 34 [(2, .int 7), (0, .ref b), (1, .ref k)] [.ref q8, .int 7, .ref q0] [(b, .inr (9, [.ref q0, .null, .int 0, .int 0, .int 0, .null, .null, .int 0])), (q0, .inl (cRug g, 8, .inr (.inr (.inr (.inr (va_up (va_up (va_up (va_up (va_up (va_up (va_up (fun _ => none) 0 (some q1)) 1 (some q2)) 2 (some q3)) 3 (some q4)) 4 (some q5)) 5 (some q6)) 6 (some q7))))))), (q1, .inr (2, [.ref k, .int 0, .int 0, .int 0, .int 0, .int (-1), .int 0])), (q2, .inr (2, [.ref k, .int 0, .int 0, .int 0, .int 0, .int (-1), .int 0])), (q3, .inr (2, [.ref k, .int 0, .int 0, .int 0, .int 0, .int (-1), .int 0])), (q4, .inr (2, [.ref k, .int 0, .int 0, .int 0, .int 0, .int (-1), .int 0])), (q5, .inr (2, [.ref k, .int 0, .int 0, .int 0, .int 0, .int (-1), .int 0])), (q6, .inr (2, [.ref k, .int 0, .int 0, .int 0, .int 0, .int (-1), .int 0])), (q7, .inr (2, [.ref k, .int 0, .int 0, .int 0, .int 0, .int (-1), .int 0])), (q8, .inr (2, [.ref k, .int 0, .int 0, .int 0, .int 0, .int (-1), .int 0]))]
  refine y_ast (j := 7) (ws' := [(b, .inr (9, [.ref q0, .null, .int 0, .int 0, .int 0, .null, .null, .int 0])), (q0, .inl (cRug g, 8, .inr (.inr (.inr (.inr (va_up (va_up (va_up (va_up (va_up (va_up (va_up (va_up (fun _ => none) 0 (some q1)) 1 (some q2)) 2 (some q3)) 3 (some q4)) 4 (some q5)) 5 (some q6)) 6 (some q7)) 7 (some q8))))))), (q1, .inr (2, [.ref k, .int 0, .int 0, .int 0, .int 0, .int (-1), .int 0])), (q2, .inr (2, [.ref k, .int 0, .int 0, .int 0, .int 0, .int (-1), .int 0])), (q3, .inr (2, [.ref k, .int 0, .int 0, .int 0, .int 0, .int (-1), .int 0])), (q4, .inr (2, [.ref k, .int 0, .int 0, .int 0, .int 0, .int (-1), .int 0])), (q5, .inr (2, [.ref k, .int 0, .int 0, .int 0, .int 0, .int (-1), .int 0])), (q6, .inr (2, [.ref k, .int 0, .int 0, .int 0, .int 0, .int (-1), .int 0])), (q7, .inr (2, [.ref k, .int 0, .int 0, .int 0, .int 0, .int (-1), .int 0])), (q8, .inr (2, [.ref k, .int 0, .int 0, .int 0, .int 0, .int (-1), .int 0]))]) hc d_World_init_34 3 rfl 1 rfl 9 rfl rfl (Or.inl rfl) (by decide) rfl ?_
  refine y_iinc (y := 7) (v := 8) (L' := [(2, .int 8), (0, .ref b), (1, .ref k)]) hc d_World_init_35 0 rfl (by decide) (by decide) rfl ?_
  refine y_goto (tgt := 15) hc d_World_init_38 (by decide) ?_
  refine y_iload_n hc d_World_init_15 0 rfl ?_
  refine y_bipush (v := 8) hc d_World_init_16 (by decide) ?_
  refine y_ge_yes 41 hc d_World_init_18 (by decide) (by decide) ?_
  refine y_aload_n hc d_World_init_41 1 rfl ?_
  refine y_bipush (v := 7) hc d_World_init_42 (by decide) ?_
  refine y_newa (ty := .int) (a0 := (7, .inl (fun _ => 0))) (N := 7) (cl' := 10) (sl' := 71) hc d_World_init_44 (tb1 192 (by decide +kernel) (by decide +kernel)) rfl 0 rfl (fun _ _ h => h) (fun _ => rfl) (by decide) (by decide) (by decide) rfl rfl (by decide) (by decide) (fun q9 => ?_)
  show Y x A g 3 Q 10 71 46 [(2, .int 8), (0, .ref b), (1, .ref k)] [.ref q9, .ref b] [(b, .inr (9, [.ref q0, .null, .int 0, .int 0, .int 0, .null, .null, .int 0])), (q0, .inl (cRug g, 8, .inr (.inr (.inr (.inr (va_up (va_up (va_up (va_up (va_up (va_up (va_up (va_up (fun _ => none) 0 (some q1)) 1 (some q2)) 2 (some q3)) 3 (some q4)) 4 (some q5)) 5 (some q6)) 6 (some q7)) 7 (some q8))))))), (q1, .inr (2, [.ref k, .int 0, .int 0, .int 0, .int 0, .int (-1), .int 0])), (q2, .inr (2, [.ref k, .int 0, .int 0, .int 0, .int 0, .int (-1), .int 0])), (q3, .inr (2, [.ref k, .int 0, .int 0, .int 0, .int 0, .int (-1), .int 0])), (q4, .inr (2, [.ref k, .int 0, .int 0, .int 0, .int 0, .int (-1), .int 0])), (q5, .inr (2, [.ref k, .int 0, .int 0, .int 0, .int 0, .int (-1), .int 0])), (q6, .inr (2, [.ref k, .int 0, .int 0, .int 0, .int 0, .int (-1), .int 0])), (q7, .inr (2, [.ref k, .int 0, .int 0, .int 0, .int 0, .int (-1), .int 0])), (q8, .inr (2, [.ref k, .int 0, .int 0, .int 0, .int 0, .int (-1), .int 0])), (q9, .inl (cInt g, 7, .inl (fun _ => 0)))]
  refine y_putF (ci := 9) (ws' := [(b, .inr (9, [.ref q0, .ref q9, .int 0, .int 0, .int 0, .null, .null, .int 0])), (q0, .inl (cRug g, 8, .inr (.inr (.inr (.inr (va_up (va_up (va_up (va_up (va_up (va_up (va_up (va_up (fun _ => none) 0 (some q1)) 1 (some q2)) 2 (some q3)) 3 (some q4)) 4 (some q5)) 5 (some q6)) 6 (some q7)) 7 (some q8))))))), (q1, .inr (2, [.ref k, .int 0, .int 0, .int 0, .int 0, .int (-1), .int 0])), (q2, .inr (2, [.ref k, .int 0, .int 0, .int 0, .int 0, .int (-1), .int 0])), (q3, .inr (2, [.ref k, .int 0, .int 0, .int 0, .int 0, .int (-1), .int 0])), (q4, .inr (2, [.ref k, .int 0, .int 0, .int 0, .int 0, .int (-1), .int 0])), (q5, .inr (2, [.ref k, .int 0, .int 0, .int 0, .int 0, .int (-1), .int 0])), (q6, .inr (2, [.ref k, .int 0, .int 0, .int 0, .int 0, .int (-1), .int 0])), (q7, .inr (2, [.ref k, .int 0, .int 0, .int 0, .int 0, .int (-1), .int 0])), (q8, .inr (2, [.ref k, .int 0, .int 0, .int 0, .int 0, .int (-1), .int 0])), (q9, .inl (cInt g, 7, .inl (fun _ => 0)))]) hc d_World_init_46 in_World ty_World tyok_World nm_World rfl 1 (by decide) (tb1 162 (by decide +kernel) (by decide +kernel)) rfl rfl (tyok_World 1 (by decide)) rfl rfl 0 rfl (Nat.le_of_ble_eq_true rfl) rfl ?_
  refine y_aload_n hc d_World_init_49 1 rfl ?_
  refine y_get (ci := 9) hc d_World_init_50 in_World rfl 1 (by decide) (tb1 162 (by decide +kernel) (by decide +kernel)) 0 rfl rfl ?_
  refine y_iconst (v := 3) hc d_World_init_53 (by decide) ?_
  refine y_iconst (v := 1) hc d_World_init_54 (by decide) ?_
  refine y_ist (j := 3) (ws' := [(b, .inr (9, [.ref q0, .ref q9, .int 0, .int 0, .int 0, .null, .null, .int 0])), (q0, .inl (cRug g, 8, .inr (.inr (.inr (.inr (va_up (va_up (va_up (va_up (va_up (va_up (va_up (va_up (fun _ => none) 0 (some q1)) 1 (some q2)) 2 (some q3)) 3 (some q4)) 4 (some q5)) 5 (some q6)) 6 (some q7)) 7 (some q8))))))), (q1, .inr (2, [.ref k, .int 0, .int 0, .int 0, .int 0, .int (-1), .int 0])), (q2, .inr (2, [.ref k, .int 0, .int 0, .int 0, .int 0, .int (-1), .int 0])), (q3, .inr (2, [.ref k, .int 0, .int 0, .int 0, .int 0, .int (-1), .int 0])), (q4, .inr (2, [.ref k, .int 0, .int 0, .int 0, .int 0, .int (-1), .int 0])), (q5, .inr (2, [.ref k, .int 0, .int 0, .int 0, .int 0, .int (-1), .int 0])), (q6, .inr (2, [.ref k, .int 0, .int 0, .int 0, .int 0, .int (-1), .int 0])), (q7, .inr (2, [.ref k, .int 0, .int 0, .int 0, .int 0, .int (-1), .int 0])), (q8, .inr (2, [.ref k, .int 0, .int 0, .int 0, .int 0, .int (-1), .int 0])), (q9, .inl (cInt g, 7, .inl (upd (fun _ => 0) 3 1)))]) hc d_World_init_55 10 rfl (by decide) rfl ?_
  refine y_aload_n hc d_World_init_56 1 rfl ?_
  refine y_bipush (v := 8) hc d_World_init_57 (by decide) ?_
  refine y_newa (ty := .int) (a0 := (8, .inl (fun _ => 0))) (N := 8) (cl' := 11) (sl' := 79) hc d_World_init_59 (tb1 192 (by decide +kernel) (by decide +kernel)) rfl 0 rfl (fun _ _ h => h) (fun _ => rfl) (by decide) (by decide) (by decide) rfl rfl (by decide) (by decide) (fun q10 => ?_)
  show Y x A g 3 Q 11 79 61 [(2, .int 8), (0, .ref b), (1, .ref k)] [.ref q10, .ref b] [(b, .inr (9, [.ref q0, .ref q9, .int 0, .int 0, .int 0, .null, .null, .int 0])), (q0, .inl (cRug g, 8, .inr (.inr (.inr (.inr (va_up (va_up (va_up (va_up (va_up (va_up (va_up (va_up (fun _ => none) 0 (some q1)) 1 (some q2)) 2 (some q3)) 3 (some q4)) 4 (some q5)) 5 (some q6)) 6 (some q7)) 7 (some q8))))))), (q1, .inr (2, [.ref k, .int 0, .int 0, .int 0, .int 0, .int (-1), .int 0])), (q2, .inr (2, [.ref k, .int 0, .int 0, .int 0, .int 0, .int (-1), .int 0])), (q3, .inr (2, [.ref k, .int 0, .int 0, .int 0, .int 0, .int (-1), .int 0])), (q4, .inr (2, [.ref k, .int 0, .int 0, .int 0, .int 0, .int (-1), .int 0])), (q5, .inr (2, [.ref k, .int 0, .int 0, .int 0, .int 0, .int (-1), .int 0])), (q6, .inr (2, [.ref k, .int 0, .int 0, .int 0, .int 0, .int (-1), .int 0])), (q7, .inr (2, [.ref k, .int 0, .int 0, .int 0, .int 0, .int (-1), .int 0])), (q8, .inr (2, [.ref k, .int 0, .int 0, .int 0, .int 0, .int (-1), .int 0])), (q9, .inl (cInt g, 7, .inl (upd (fun _ => 0) 3 1))), (q10, .inl (cInt g, 8, .inl (fun _ => 0)))]
  refine y_putF (ci := 9) (ws' := [(b, .inr (9, [.ref q0, .ref q9, .int 0, .int 0, .int 0, .ref q10, .null, .int 0])), (q0, .inl (cRug g, 8, .inr (.inr (.inr (.inr (va_up (va_up (va_up (va_up (va_up (va_up (va_up (va_up (fun _ => none) 0 (some q1)) 1 (some q2)) 2 (some q3)) 3 (some q4)) 4 (some q5)) 5 (some q6)) 6 (some q7)) 7 (some q8))))))), (q1, .inr (2, [.ref k, .int 0, .int 0, .int 0, .int 0, .int (-1), .int 0])), (q2, .inr (2, [.ref k, .int 0, .int 0, .int 0, .int 0, .int (-1), .int 0])), (q3, .inr (2, [.ref k, .int 0, .int 0, .int 0, .int 0, .int (-1), .int 0])), (q4, .inr (2, [.ref k, .int 0, .int 0, .int 0, .int 0, .int (-1), .int 0])), (q5, .inr (2, [.ref k, .int 0, .int 0, .int 0, .int 0, .int (-1), .int 0])), (q6, .inr (2, [.ref k, .int 0, .int 0, .int 0, .int 0, .int (-1), .int 0])), (q7, .inr (2, [.ref k, .int 0, .int 0, .int 0, .int 0, .int (-1), .int 0])), (q8, .inr (2, [.ref k, .int 0, .int 0, .int 0, .int 0, .int (-1), .int 0])), (q9, .inl (cInt g, 7, .inl (upd (fun _ => 0) 3 1))), (q10, .inl (cInt g, 8, .inl (fun _ => 0)))]) hc d_World_init_61 in_World ty_World tyok_World nm_World rfl 5 (by decide) (tb1 172 (by decide +kernel) (by decide +kernel)) rfl rfl (tyok_World 5 (by decide)) rfl rfl 0 rfl (Nat.le_of_ble_eq_true rfl) rfl ?_
  refine y_aload_n hc d_World_init_64 1 rfl ?_
  refine y_bipush (v := 8) hc d_World_init_65 (by decide) ?_
  refine y_newa (ty := .long) (a0 := (8, .inr (.inl (fun _ => 0)))) (N := 8) (cl' := 12) (sl' := 87) hc d_World_init_67 (tb1 193 (by decide +kernel) (by decide +kernel)) rfl 1 rfl (fun _ _ h => h) (fun _ => rfl) (by decide) (by decide) (by decide) rfl rfl (by decide) (by decide) (fun q11 => ?_)
  show Y x A g 3 Q 12 87 69 [(2, .int 8), (0, .ref b), (1, .ref k)] [.ref q11, .ref b] [(b, .inr (9, [.ref q0, .ref q9, .int 0, .int 0, .int 0, .ref q10, .null, .int 0])), (q0, .inl (cRug g, 8, .inr (.inr (.inr (.inr (va_up (va_up (va_up (va_up (va_up (va_up (va_up (va_up (fun _ => none) 0 (some q1)) 1 (some q2)) 2 (some q3)) 3 (some q4)) 4 (some q5)) 5 (some q6)) 6 (some q7)) 7 (some q8))))))), (q1, .inr (2, [.ref k, .int 0, .int 0, .int 0, .int 0, .int (-1), .int 0])), (q2, .inr (2, [.ref k, .int 0, .int 0, .int 0, .int 0, .int (-1), .int 0])), (q3, .inr (2, [.ref k, .int 0, .int 0, .int 0, .int 0, .int (-1), .int 0])), (q4, .inr (2, [.ref k, .int 0, .int 0, .int 0, .int 0, .int (-1), .int 0])), (q5, .inr (2, [.ref k, .int 0, .int 0, .int 0, .int 0, .int (-1), .int 0])), (q6, .inr (2, [.ref k, .int 0, .int 0, .int 0, .int 0, .int (-1), .int 0])), (q7, .inr (2, [.ref k, .int 0, .int 0, .int 0, .int 0, .int (-1), .int 0])), (q8, .inr (2, [.ref k, .int 0, .int 0, .int 0, .int 0, .int (-1), .int 0])), (q9, .inl (cInt g, 7, .inl (upd (fun _ => 0) 3 1))), (q10, .inl (cInt g, 8, .inl (fun _ => 0))), (q11, .inl (cLong g, 8, .inr (.inl (fun _ => 0))))]
  refine y_putF (ci := 9) (ws' := [(b, .inr (9, [.ref q0, .ref q9, .int 0, .int 0, .int 0, .ref q10, .ref q11, .int 0])), (q0, .inl (cRug g, 8, .inr (.inr (.inr (.inr (va_up (va_up (va_up (va_up (va_up (va_up (va_up (va_up (fun _ => none) 0 (some q1)) 1 (some q2)) 2 (some q3)) 3 (some q4)) 4 (some q5)) 5 (some q6)) 6 (some q7)) 7 (some q8))))))), (q1, .inr (2, [.ref k, .int 0, .int 0, .int 0, .int 0, .int (-1), .int 0])), (q2, .inr (2, [.ref k, .int 0, .int 0, .int 0, .int 0, .int (-1), .int 0])), (q3, .inr (2, [.ref k, .int 0, .int 0, .int 0, .int 0, .int (-1), .int 0])), (q4, .inr (2, [.ref k, .int 0, .int 0, .int 0, .int 0, .int (-1), .int 0])), (q5, .inr (2, [.ref k, .int 0, .int 0, .int 0, .int 0, .int (-1), .int 0])), (q6, .inr (2, [.ref k, .int 0, .int 0, .int 0, .int 0, .int (-1), .int 0])), (q7, .inr (2, [.ref k, .int 0, .int 0, .int 0, .int 0, .int (-1), .int 0])), (q8, .inr (2, [.ref k, .int 0, .int 0, .int 0, .int 0, .int (-1), .int 0])), (q9, .inl (cInt g, 7, .inl (upd (fun _ => 0) 3 1))), (q10, .inl (cInt g, 8, .inl (fun _ => 0))), (q11, .inl (cLong g, 8, .inr (.inl (fun _ => 0))))]) hc d_World_init_69 in_World ty_World tyok_World nm_World rfl 6 (by decide) (tb1 173 (by decide +kernel) (by decide +kernel)) rfl rfl (tyok_World 6 (by decide)) rfl rfl 0 rfl (Nat.le_of_ble_eq_true rfl) rfl ?_
  refine y_same (y' := (cRug g, 8, .inr (.inr (.inr (.inr (fun c => some ([q0, q1, q2, q3, q4, q5, q6, q7, q8, q9, q10, q11].getD (1 + c) 0))))))) (ws' := [(b, .inr (9, [.ref q0, .ref q9, .int 0, .int 0, .int 0, .ref q10, .ref q11, .int 0])), (q0, .inl (cRug g, 8, .inr (.inr (.inr (.inr (fun c => some ([q0, q1, q2, q3, q4, q5, q6, q7, q8, q9, q10, q11].getD (1 + c) 0))))))), (q1, .inr (2, [.ref k, .int 0, .int 0, .int 0, .int 0, .int (-1), .int 0])), (q2, .inr (2, [.ref k, .int 0, .int 0, .int 0, .int 0, .int (-1), .int 0])), (q3, .inr (2, [.ref k, .int 0, .int 0, .int 0, .int 0, .int (-1), .int 0])), (q4, .inr (2, [.ref k, .int 0, .int 0, .int 0, .int 0, .int (-1), .int 0])), (q5, .inr (2, [.ref k, .int 0, .int 0, .int 0, .int 0, .int (-1), .int 0])), (q6, .inr (2, [.ref k, .int 0, .int 0, .int 0, .int 0, .int (-1), .int 0])), (q7, .inr (2, [.ref k, .int 0, .int 0, .int 0, .int 0, .int (-1), .int 0])), (q8, .inr (2, [.ref k, .int 0, .int 0, .int 0, .int 0, .int (-1), .int 0])), (q9, .inl (cInt g, 7, .inl (upd (fun _ => 0) 3 1))), (q10, .inl (cInt g, 8, .inl (fun _ => 0))), (q11, .inl (cLong g, 8, .inr (.inl (fun _ => 0))))]) 1 rfl (sameQ (by intro j hj; match j, hj with | 0, _ => rfl | 1, _ => rfl | 2, _ => rfl | 3, _ => rfl | 4, _ => rfl | 5, _ => rfl | 6, _ => rfl | 7, _ => rfl)) rfl ?_
  exact y_ret hc hq d_World_init_72 (fun i => [q0, q1, q2, q3, q4, q5, q6, q7, q8, q9, q10, q11].getD i 0) [0, 1, 10, 11, 12, 2, 3, 4, 5, 6, 7, 8, 9] (by decide) rfl rfl rfl
