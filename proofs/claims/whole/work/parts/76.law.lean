def R_law : String := "CarpetRealmsLaw"
def lw_P (b : Addr) (xs : List Int32) (args : Array Value) (s : State) : Prop := args = #[.ref b] ∧ s.IntsAt b xs ∧ xs.length ≤ 3072 ∧ (Jvm.Cond.and given_1 narrow_1).before args s = true
def lw_Q (_ : Array Value) (s : State) (o : Outcome) (t : State) : Prop := o = .returned (some (.int 1)) ∧ Framed s o t [] 600000 7302250
def lw_Z (below : List Frame) (a : Array Value) (s : State) : State → Prop := fun t => ∃ o, t.status = .running ∧ Ended t below o ∧ lw_Q a s o t
/-- the law's own end, with 1 on the stack, nothing written that was there before, its room as the claim has it -/
theorem lw_ret {p : Program} {l : Launch} {e : Env} {s : State} {m : MethodId} {below : List Frame} {meth : Method} {c : Code} {b : Nat} (hx : p.tables.exec = Jvm.exec) (hb : c.code = code) (hr : meth.sig.returnType = ret) (hlocks : meth.locks = false) {pc : Nat} {H : Heap} {ls : Array Slot} (hdg : decode code pc = .ok (.ireturn, 1)) : W p l e room_1 s m #[Value.ref b] below meth c H [] 600000 7302250 (lw_Z below #[Value.ref b] s) (F0 m pc ls [.int 1]) := by
  intro T hT X
  obtain ⟨fs, hret, hrun, hended, hW, hframe⟩ := X.leave (v := some (.int 1)) (hlocks := hlocks) (fun h => by rw [hr] at h; cases h)
  have hmeth' : T.vm.method? m = some meth := X.method'
  refine ⟨T.setFrames fs, ?_, .returned (some (.int 1)), hrun, hended, rfl, ⟨_, rfl⟩, hW, hframe⟩
  jvm_step X.here [X.here.top, hx, hb, hdg, hmeth', hr, ret, narrow_b1]
  (try refine ⟨rfl, ?_⟩); (try refine ⟨rfl, ?_⟩)
  first | (intro acts; rw [hret _ acts rfl rfl rfl]) | rw [hret _ _ rfl rfl rfl]
  exact Steps.refl _
/-- what holds at the law's entry: the machine, the code, the tables' words (any of lw_tbl by 'hts w (by decide +kernel)'), the script of L ints xs at the cell b, what the Statement gives of the start (any of its parts by flat_of_before) -/
def lw_At (p : Program) (s : State) (m : MethodId) (meth : Method) (c : Code) (b L : Nat) (xs : Nat → Int32) : Prop :=
  p.tables.exec = Jvm.exec ∧ c.code = code ∧ meth.sig.returnType = ret ∧ c.maxLocals = 4 ∧ s.vm.findClass R_law = some m.cls ∧ (∀ w ∈ lw_tbl, w.before #[Value.ref b] s = true) ∧ va_X b L xs s s.heap ∧ b < s.heap.size ∧ meth.locks = false ∧ (Jvm.Cond.and given_1 narrow_1).before #[Value.ref b] s = true
theorem vl_law_13 : VL R_law 13 y_X_rain c_X_rain 4 (some .int) 2 := ⟨tb2 32 (by decide +kernel) (by decide +kernel), tb2 33 (by decide +kernel) (by decide +kernel), tb2 34 (by decide +kernel) (by decide +kernel), tb1 1 (by decide +kernel) (by decide +kernel), k_X_rain, by decide, by decide, by decide +kernel, by decide⟩
theorem vl_law_17 : VL R_law 17 y_M_rain c_M_rain 4 (some .int) 2 := ⟨tb4 188 (by decide +kernel) (by decide +kernel), tb4 189 (by decide +kernel) (by decide +kernel), tb4 190 (by decide +kernel) (by decide +kernel), tb1 12 (by decide +kernel) (by decide +kernel), k_M_rain, by decide, by decide, by decide +kernel, by decide⟩
theorem vl_law_18 : VL R_law 18 y_X_yard c_X_yard 3 (some .int) 2 := ⟨tb2 44 (by decide +kernel) (by decide +kernel), tb2 45 (by decide +kernel) (by decide +kernel), tb2 46 (by decide +kernel) (by decide +kernel), tb1 1 (by decide +kernel) (by decide +kernel), k_X_yard, by decide, by decide, by decide +kernel, by decide⟩
theorem vl_law_21 : VL R_law 21 y_M_yard c_M_yard 5 (some .int) 2 := ⟨tb4 200 (by decide +kernel) (by decide +kernel), tb4 201 (by decide +kernel) (by decide +kernel), tb4 202 (by decide +kernel) (by decide +kernel), tb1 12 (by decide +kernel) (by decide +kernel), k_M_yard, by decide, by decide, by decide +kernel, by decide⟩
theorem vl_law_22 : VL R_law 22 y_X_owns c_X_owns 2 (some .int) 1 := ⟨tb2 102 (by decide +kernel) (by decide +kernel), tb2 103 (by decide +kernel) (by decide +kernel), tb2 104 (by decide +kernel) (by decide +kernel), tb1 1 (by decide +kernel) (by decide +kernel), k_X_owns, by decide, by decide, by decide +kernel, by decide⟩
theorem vl_law_26 : VL R_law 26 y_M_owns c_M_owns 2 (some .int) 1 := ⟨tb4 227 (by decide +kernel) (by decide +kernel), tb4 228 (by decide +kernel) (by decide +kernel), tb4 229 (by decide +kernel) (by decide +kernel), tb1 12 (by decide +kernel) (by decide +kernel), k_M_owns, by decide, by decide, by decide +kernel, by decide⟩
theorem vl_law_27 : VL R_law 27 y_X_borders c_X_borders 3 (some .int) 0 := ⟨tb2 134 (by decide +kernel) (by decide +kernel), tb2 135 (by decide +kernel) (by decide +kernel), tb2 136 (by decide +kernel) (by decide +kernel), tb1 1 (by decide +kernel) (by decide +kernel), k_X_borders, by decide, by decide, by decide +kernel, by decide⟩
theorem vl_law_31 : VL R_law 31 y_M_borders c_M_borders 3 (some .int) 0 := ⟨tb4 235 (by decide +kernel) (by decide +kernel), tb4 236 (by decide +kernel) (by decide +kernel), tb4 237 (by decide +kernel) (by decide +kernel), tb1 12 (by decide +kernel) (by decide +kernel), k_M_borders, by decide, by decide, by decide +kernel, by decide⟩
theorem vl_law_32 : VL R_law 32 y_X_walk c_X_walk 5 (some .int) 1 := ⟨tb2 138 (by decide +kernel) (by decide +kernel), tb2 139 (by decide +kernel) (by decide +kernel), tb2 140 (by decide +kernel) (by decide +kernel), tb1 1 (by decide +kernel) (by decide +kernel), k_X_walk, by decide, by decide, by decide +kernel, by decide⟩
theorem vl_law_35 : VL R_law 35 y_M_walk c_M_walk 5 (some .int) 1 := ⟨tb4 239 (by decide +kernel) (by decide +kernel), tb5 0 (by decide +kernel) (by decide +kernel), tb5 1 (by decide +kernel) (by decide +kernel), tb1 12 (by decide +kernel) (by decide +kernel), k_M_walk, by decide, by decide, by decide +kernel, by decide⟩
theorem vl_law_36 : VL R_law 36 y_X_now c_X_now 2 (some .int) 1 := ⟨tb2 142 (by decide +kernel) (by decide +kernel), tb2 143 (by decide +kernel) (by decide +kernel), tb2 144 (by decide +kernel) (by decide +kernel), tb1 1 (by decide +kernel) (by decide +kernel), k_X_now, by decide, by decide, by decide +kernel, by decide⟩
theorem vl_law_39 : VL R_law 39 y_M_now c_M_now 2 (some .int) 1 := ⟨tb5 3 (by decide +kernel) (by decide +kernel), tb5 4 (by decide +kernel) (by decide +kernel), tb5 5 (by decide +kernel) (by decide +kernel), tb1 12 (by decide +kernel) (by decide +kernel), k_M_now, by decide, by decide, by decide +kernel, by decide⟩
theorem vl_law_40 : VL R_law 40 y_X_carpet c_X_carpet 4 (some .int) 2 := ⟨tb2 161 (by decide +kernel) (by decide +kernel), tb2 162 (by decide +kernel) (by decide +kernel), tb2 163 (by decide +kernel) (by decide +kernel), tb1 1 (by decide +kernel) (by decide +kernel), k_X_carpet, by decide, by decide, by decide +kernel, by decide⟩
theorem vl_law_43 : VL R_law 43 y_M_carpet c_M_carpet 3 (some .int) 2 := ⟨tb5 19 (by decide +kernel) (by decide +kernel), tb5 20 (by decide +kernel) (by decide +kernel), tb5 21 (by decide +kernel) (by decide +kernel), tb1 12 (by decide +kernel) (by decide +kernel), k_M_carpet, by decide, by decide, by decide +kernel, by decide⟩
theorem vl_law_44 : VL R_law 44 y_X_of c_X_of 4 (some .int) 2 := ⟨tb2 178 (by decide +kernel) (by decide +kernel), tb2 179 (by decide +kernel) (by decide +kernel), tb2 180 (by decide +kernel) (by decide +kernel), tb1 1 (by decide +kernel) (by decide +kernel), k_X_of, by decide, by decide, by decide +kernel, by decide⟩
theorem vl_law_47 : VL R_law 47 y_M_of c_M_of 3 (some .int) 2 := ⟨tb5 31 (by decide +kernel) (by decide +kernel), tb5 32 (by decide +kernel) (by decide +kernel), tb5 33 (by decide +kernel) (by decide +kernel), tb1 12 (by decide +kernel) (by decide +kernel), k_M_of, by decide, by decide, by decide +kernel, by decide⟩
theorem vl_law_48 : VL R_law 48 y_X_set c_X_set 6 (some .int) 3 := ⟨tb3 14 (by decide +kernel) (by decide +kernel), tb3 15 (by decide +kernel) (by decide +kernel), tb3 16 (by decide +kernel) (by decide +kernel), tb1 1 (by decide +kernel) (by decide +kernel), k_X_set, by decide, by decide, by decide +kernel, by decide⟩
theorem vl_law_52 : VL R_law 52 y_M_set c_M_set 6 (some .int) 3 := ⟨tb5 51 (by decide +kernel) (by decide +kernel), tb5 52 (by decide +kernel) (by decide +kernel), tb5 53 (by decide +kernel) (by decide +kernel), tb1 12 (by decide +kernel) (by decide +kernel), k_M_set, by decide, by decide, by decide +kernel, by decide⟩
theorem vl_law_53 : VL R_law 53 y_X_turn c_X_turn 5 (some .int) 2 := ⟨tb3 25 (by decide +kernel) (by decide +kernel), tb3 26 (by decide +kernel) (by decide +kernel), tb3 27 (by decide +kernel) (by decide +kernel), tb1 1 (by decide +kernel) (by decide +kernel), k_X_turn, by decide, by decide, by decide +kernel, by decide⟩
theorem vl_law_56 : VL R_law 56 y_M_turn c_M_turn 4 (some .int) 2 := ⟨tb5 55 (by decide +kernel) (by decide +kernel), tb5 56 (by decide +kernel) (by decide +kernel), tb5 57 (by decide +kernel) (by decide +kernel), tb1 12 (by decide +kernel) (by decide +kernel), k_M_turn, by decide, by decide, by decide +kernel, by decide⟩
theorem vl_law_57 : VL R_law 57 y_X_as c_X_as 4 (some .int) 2 := ⟨tb3 29 (by decide +kernel) (by decide +kernel), tb3 30 (by decide +kernel) (by decide +kernel), tb3 31 (by decide +kernel) (by decide +kernel), tb1 1 (by decide +kernel) (by decide +kernel), k_X_as, by decide, by decide, by decide +kernel, by decide⟩
theorem vl_law_60 : VL R_law 60 y_M_as c_M_as 4 (some .int) 2 := ⟨tb5 59 (by decide +kernel) (by decide +kernel), tb5 60 (by decide +kernel) (by decide +kernel), tb5 61 (by decide +kernel) (by decide +kernel), tb1 12 (by decide +kernel) (by decide +kernel), k_M_as, by decide, by decide, by decide +kernel, by decide⟩
theorem vl_law_61 : VL R_law 61 y_X_roll c_X_roll 4 (some .int) 2 := ⟨tb3 44 (by decide +kernel) (by decide +kernel), tb3 45 (by decide +kernel) (by decide +kernel), tb3 46 (by decide +kernel) (by decide +kernel), tb1 1 (by decide +kernel) (by decide +kernel), k_X_roll, by decide, by decide, by decide +kernel, by decide⟩
theorem vl_law_64 : VL R_law 64 y_M_roll c_M_roll 3 (some .int) 2 := ⟨tb5 63 (by decide +kernel) (by decide +kernel), tb5 64 (by decide +kernel) (by decide +kernel), tb5 65 (by decide +kernel) (by decide +kernel), tb1 12 (by decide +kernel) (by decide +kernel), k_M_roll, by decide, by decide, by decide +kernel, by decide⟩
theorem vl_law_65 : VL R_law 65 y_X_up c_X_up 4 (some .int) 1 := ⟨tb3 56 (by decide +kernel) (by decide +kernel), tb3 57 (by decide +kernel) (by decide +kernel), tb3 58 (by decide +kernel) (by decide +kernel), tb1 1 (by decide +kernel) (by decide +kernel), k_X_up, by decide, by decide, by decide +kernel, by decide⟩
theorem vl_law_68 : VL R_law 68 y_M_up c_M_up 3 (some .int) 1 := ⟨tb5 75 (by decide +kernel) (by decide +kernel), tb5 76 (by decide +kernel) (by decide +kernel), tb5 77 (by decide +kernel) (by decide +kernel), tb1 12 (by decide +kernel) (by decide +kernel), k_M_up, by decide, by decide, by decide +kernel, by decide⟩
theorem vl_law_69 : VL R_law 69 y_X_beat c_X_beat 3 (some .int) 1 := ⟨tb3 62 (by decide +kernel) (by decide +kernel), tb3 63 (by decide +kernel) (by decide +kernel), tb3 64 (by decide +kernel) (by decide +kernel), tb1 1 (by decide +kernel) (by decide +kernel), k_X_beat, by decide, by decide, by decide +kernel, by decide⟩
theorem vl_law_72 : VL R_law 72 y_M_beat c_M_beat 2 (some .int) 1 := ⟨tb5 79 (by decide +kernel) (by decide +kernel), tb5 80 (by decide +kernel) (by decide +kernel), tb5 81 (by decide +kernel) (by decide +kernel), tb1 12 (by decide +kernel) (by decide +kernel), k_M_beat, by decide, by decide, by decide +kernel, by decide⟩
theorem vl_law_73 : VL R_law 73 y_X_days c_X_days 2 (some .int) 1 := ⟨tb3 68 (by decide +kernel) (by decide +kernel), tb3 69 (by decide +kernel) (by decide +kernel), tb3 70 (by decide +kernel) (by decide +kernel), tb1 1 (by decide +kernel) (by decide +kernel), k_X_days, by decide, by decide, by decide +kernel, by decide⟩
theorem vl_law_76 : VL R_law 76 y_M_days c_M_days 2 (some .int) 1 := ⟨tb5 83 (by decide +kernel) (by decide +kernel), tb5 84 (by decide +kernel) (by decide +kernel), tb5 85 (by decide +kernel) (by decide +kernel), tb1 12 (by decide +kernel) (by decide +kernel), k_M_days, by decide, by decide, by decide +kernel, by decide⟩
theorem vl_law_77 : VL R_law 77 y_X_on c_X_on 4 (some .int) 3 := ⟨tb3 84 (by decide +kernel) (by decide +kernel), tb3 85 (by decide +kernel) (by decide +kernel), tb3 86 (by decide +kernel) (by decide +kernel), tb1 1 (by decide +kernel) (by decide +kernel), k_X_on, by decide, by decide, by decide +kernel, by decide⟩
theorem vl_law_80 : VL R_law 80 y_M_on c_M_on 5 (some .int) 3 := ⟨tb5 95 (by decide +kernel) (by decide +kernel), tb5 96 (by decide +kernel) (by decide +kernel), tb5 97 (by decide +kernel) (by decide +kernel), tb1 12 (by decide +kernel) (by decide +kernel), k_M_on, by decide, by decide, by decide +kernel, by decide⟩
theorem vl_law_81 : VL R_law 81 y_X_ownsOn c_X_ownsOn 3 (some .int) 2 := ⟨tb3 97 (by decide +kernel) (by decide +kernel), tb3 98 (by decide +kernel) (by decide +kernel), tb3 99 (by decide +kernel) (by decide +kernel), tb1 1 (by decide +kernel) (by decide +kernel), k_X_ownsOn, by decide, by decide, by decide +kernel, by decide⟩
theorem vl_law_84 : VL R_law 84 y_M_ownsOn c_M_ownsOn 3 (some .int) 2 := ⟨tb5 107 (by decide +kernel) (by decide +kernel), tb5 108 (by decide +kernel) (by decide +kernel), tb5 109 (by decide +kernel) (by decide +kernel), tb1 12 (by decide +kernel) (by decide +kernel), k_M_ownsOn, by decide, by decide, by decide +kernel, by decide⟩
theorem vl_law_85 : VL R_law 85 y_X_ends c_X_ends 3 (some .int) 1 := ⟨tb3 109 (by decide +kernel) (by decide +kernel), tb3 110 (by decide +kernel) (by decide +kernel), tb3 111 (by decide +kernel) (by decide +kernel), tb1 1 (by decide +kernel) (by decide +kernel), k_X_ends, by decide, by decide, by decide +kernel, by decide⟩
theorem vl_law_88 : VL R_law 88 y_M_ends c_M_ends 2 (some .int) 1 := ⟨tb5 115 (by decide +kernel) (by decide +kernel), tb5 116 (by decide +kernel) (by decide +kernel), tb5 117 (by decide +kernel) (by decide +kernel), tb1 12 (by decide +kernel) (by decide +kernel), k_M_ends, by decide, by decide, by decide +kernel, by decide⟩
theorem vl_law_89 : VL R_law 89 y_X_bare c_X_bare 3 (some .int) 1 := ⟨tb3 118 (by decide +kernel) (by decide +kernel), tb3 119 (by decide +kernel) (by decide +kernel), tb3 120 (by decide +kernel) (by decide +kernel), tb1 1 (by decide +kernel) (by decide +kernel), k_X_bare, by decide, by decide, by decide +kernel, by decide⟩
theorem vl_law_92 : VL R_law 92 y_M_bare c_M_bare 2 (some .int) 1 := ⟨tb5 127 (by decide +kernel) (by decide +kernel), tb5 128 (by decide +kernel) (by decide +kernel), tb5 129 (by decide +kernel) (by decide +kernel), tb1 12 (by decide +kernel) (by decide +kernel), k_M_bare, by decide, by decide, by decide +kernel, by decide⟩
theorem vl_law_93 : VL R_law 93 y_X_changes c_X_changes 4 (some .int) 1 := ⟨tb3 122 (by decide +kernel) (by decide +kernel), tb3 123 (by decide +kernel) (by decide +kernel), tb3 124 (by decide +kernel) (by decide +kernel), tb1 1 (by decide +kernel) (by decide +kernel), k_X_changes, by decide, by decide, by decide +kernel, by decide⟩
theorem vl_law_96 : VL R_law 96 y_M_changes c_M_changes 2 (some .int) 1 := ⟨tb5 131 (by decide +kernel) (by decide +kernel), tb5 132 (by decide +kernel) (by decide +kernel), tb5 133 (by decide +kernel) (by decide +kernel), tb1 12 (by decide +kernel) (by decide +kernel), k_M_changes, by decide, by decide, by decide +kernel, by decide⟩
theorem vl_law_97 : VL R_law 97 y_X_best c_X_best 4 (some .int) 2 := ⟨tb3 126 (by decide +kernel) (by decide +kernel), tb3 127 (by decide +kernel) (by decide +kernel), tb3 128 (by decide +kernel) (by decide +kernel), tb1 1 (by decide +kernel) (by decide +kernel), k_X_best, by decide, by decide, by decide +kernel, by decide⟩
theorem vl_law_100 : VL R_law 100 y_M_best c_M_best 7 (some .int) 2 := ⟨tb5 135 (by decide +kernel) (by decide +kernel), tb5 136 (by decide +kernel) (by decide +kernel), tb5 137 (by decide +kernel) (by decide +kernel), tb1 12 (by decide +kernel) (by decide +kernel), k_M_best, by decide, by decide, by decide +kernel, by decide⟩
theorem vl_law_101 : VL R_law 101 y_X_take c_X_take 7 (some .int) 2 := ⟨tb3 136 (by decide +kernel) (by decide +kernel), tb3 137 (by decide +kernel) (by decide +kernel), tb3 138 (by decide +kernel) (by decide +kernel), tb1 1 (by decide +kernel) (by decide +kernel), k_X_take, by decide, by decide, by decide +kernel, by decide⟩
theorem vl_law_104 : VL R_law 104 y_M_take c_M_take 9 (some .int) 2 := ⟨tb5 139 (by decide +kernel) (by decide +kernel), tb5 140 (by decide +kernel) (by decide +kernel), tb5 141 (by decide +kernel) (by decide +kernel), tb1 12 (by decide +kernel) (by decide +kernel), k_M_take, by decide, by decide, by decide +kernel, by decide⟩
theorem vl_law_105 : VL R_law 105 y_X_kind c_X_kind 6 (some .int) 1 := ⟨tb3 140 (by decide +kernel) (by decide +kernel), tb3 141 (by decide +kernel) (by decide +kernel), tb3 142 (by decide +kernel) (by decide +kernel), tb1 1 (by decide +kernel) (by decide +kernel), k_X_kind, by decide, by decide, by decide +kernel, by decide⟩
theorem vl_law_108 : VL R_law 108 y_M_kind c_M_kind 6 (some .int) 1 := ⟨tb5 143 (by decide +kernel) (by decide +kernel), tb5 144 (by decide +kernel) (by decide +kernel), tb5 145 (by decide +kernel) (by decide +kernel), tb1 12 (by decide +kernel) (by decide +kernel), k_M_kind, by decide, by decide, by decide +kernel, by decide⟩
theorem vl_law_109 : VL R_law 109 y_X_enough c_X_enough 4 (some .int) 2 := ⟨tb3 144 (by decide +kernel) (by decide +kernel), tb3 145 (by decide +kernel) (by decide +kernel), tb3 146 (by decide +kernel) (by decide +kernel), tb1 1 (by decide +kernel) (by decide +kernel), k_X_enough, by decide, by decide, by decide +kernel, by decide⟩
theorem vl_law_112 : VL R_law 112 y_M_enough c_M_enough 5 (some .int) 2 := ⟨tb5 147 (by decide +kernel) (by decide +kernel), tb5 148 (by decide +kernel) (by decide +kernel), tb5 149 (by decide +kernel) (by decide +kernel), tb1 12 (by decide +kernel) (by decide +kernel), k_M_enough, by decide, by decide, by decide +kernel, by decide⟩
theorem vl_law_113 : VL R_law 113 y_X_weather c_X_weather 6 (some .int) 1 := ⟨tb3 148 (by decide +kernel) (by decide +kernel), tb3 149 (by decide +kernel) (by decide +kernel), tb3 150 (by decide +kernel) (by decide +kernel), tb1 1 (by decide +kernel) (by decide +kernel), k_X_weather, by decide, by decide, by decide +kernel, by decide⟩
theorem vl_law_116 : VL R_law 116 y_M_weather c_M_weather 6 (some .int) 1 := ⟨tb5 151 (by decide +kernel) (by decide +kernel), tb5 152 (by decide +kernel) (by decide +kernel), tb5 153 (by decide +kernel) (by decide +kernel), tb1 12 (by decide +kernel) (by decide +kernel), k_M_weather, by decide, by decide, by decide +kernel, by decide⟩
theorem vl_law_117 : VL R_law 117 y_X_fewest c_X_fewest 8 (some .int) 2 := ⟨tb3 152 (by decide +kernel) (by decide +kernel), tb3 153 (by decide +kernel) (by decide +kernel), tb3 154 (by decide +kernel) (by decide +kernel), tb1 1 (by decide +kernel) (by decide +kernel), k_X_fewest, by decide, by decide, by decide +kernel, by decide⟩
theorem vl_law_120 : VL R_law 120 y_M_fewest c_M_fewest 7 (some .int) 2 := ⟨tb5 155 (by decide +kernel) (by decide +kernel), tb5 156 (by decide +kernel) (by decide +kernel), tb5 157 (by decide +kernel) (by decide +kernel), tb1 12 (by decide +kernel) (by decide +kernel), k_M_fewest, by decide, by decide, by decide +kernel, by decide⟩
theorem vl_law_121 : VL R_law 121 y_X_feed c_X_feed 4 (some .int) 2 := ⟨tb3 162 (by decide +kernel) (by decide +kernel), tb3 163 (by decide +kernel) (by decide +kernel), tb3 164 (by decide +kernel) (by decide +kernel), tb1 1 (by decide +kernel) (by decide +kernel), k_X_feed, by decide, by decide, by decide +kernel, by decide⟩
theorem vl_law_124 : VL R_law 124 y_M_feed c_M_feed 4 (some .int) 2 := ⟨tb5 166 (by decide +kernel) (by decide +kernel), tb5 167 (by decide +kernel) (by decide +kernel), tb5 168 (by decide +kernel) (by decide +kernel), tb1 12 (by decide +kernel) (by decide +kernel), k_M_feed, by decide, by decide, by decide +kernel, by decide⟩
theorem vl_law_125 : VL R_law 125 y_X_wipe c_X_wipe 2 (some .int) 0 := ⟨tb3 170 (by decide +kernel) (by decide +kernel), tb3 171 (by decide +kernel) (by decide +kernel), tb3 172 (by decide +kernel) (by decide +kernel), tb1 1 (by decide +kernel) (by decide +kernel), k_X_wipe, by decide, by decide, by decide +kernel, by decide⟩
theorem vl_law_128 : VL R_law 128 y_M_wipe c_M_wipe 2 (some .int) 0 := ⟨tb5 170 (by decide +kernel) (by decide +kernel), tb5 171 (by decide +kernel) (by decide +kernel), tb5 172 (by decide +kernel) (by decide +kernel), tb1 12 (by decide +kernel) (by decide +kernel), k_M_wipe, by decide, by decide, by decide +kernel, by decide⟩
theorem vl_law_129 : VL R_law 129 y_X_palace c_X_palace 2 (some .int) 0 := ⟨tb3 174 (by decide +kernel) (by decide +kernel), tb3 175 (by decide +kernel) (by decide +kernel), tb3 176 (by decide +kernel) (by decide +kernel), tb1 1 (by decide +kernel) (by decide +kernel), k_X_palace, by decide, by decide, by decide +kernel, by decide⟩
theorem vl_law_132 : VL R_law 132 y_M_palace c_M_palace 3 (some .int) 0 := ⟨tb5 174 (by decide +kernel) (by decide +kernel), tb5 175 (by decide +kernel) (by decide +kernel), tb5 176 (by decide +kernel) (by decide +kernel), tb1 12 (by decide +kernel) (by decide +kernel), k_M_palace, by decide, by decide, by decide +kernel, by decide⟩
theorem vl_law_133 : VL R_law 133 y_X_sheet c_X_sheet 4 (some .int) 3 := ⟨tb4 42 (by decide +kernel) (by decide +kernel), tb4 43 (by decide +kernel) (by decide +kernel), tb4 44 (by decide +kernel) (by decide +kernel), tb1 1 (by decide +kernel) (by decide +kernel), k_X_sheet, by decide, by decide, by decide +kernel, by decide⟩
theorem vl_law_136 : VL R_law 136 y_M_sheet c_M_sheet 5 (some .int) 3 := ⟨tb5 218 (by decide +kernel) (by decide +kernel), tb5 219 (by decide +kernel) (by decide +kernel), tb5 220 (by decide +kernel) (by decide +kernel), tb1 12 (by decide +kernel) (by decide +kernel), k_M_sheet, by decide, by decide, by decide +kernel, by decide⟩
theorem vl_law_139 : VL R_law 139 y_X_write c_X_write 8 (some .long) 3 := ⟨tb4 55 (by decide +kernel) (by decide +kernel), tb4 56 (by decide +kernel) (by decide +kernel), tb4 57 (by decide +kernel) (by decide +kernel), tb1 1 (by decide +kernel) (by decide +kernel), k_X_write, by decide, by decide, by decide +kernel, by decide⟩
theorem vl_law_143 : VL R_law 143 y_M_write c_M_write 8 (some .long) 3 := ⟨tb5 225 (by decide +kernel) (by decide +kernel), tb5 226 (by decide +kernel) (by decide +kernel), tb5 227 (by decide +kernel) (by decide +kernel), tb1 12 (by decide +kernel) (by decide +kernel), k_M_write, by decide, by decide, by decide +kernel, by decide⟩
theorem vl_law_144 : VL R_law 144 y_X_copy c_X_copy 8 (some .int) 5 := ⟨tb4 68 (by decide +kernel) (by decide +kernel), tb4 69 (by decide +kernel) (by decide +kernel), tb4 70 (by decide +kernel) (by decide +kernel), tb1 1 (by decide +kernel) (by decide +kernel), k_X_copy, by decide, by decide, by decide +kernel, by decide⟩
theorem vl_law_148 : VL R_law 148 y_M_copy c_M_copy 7 (some .int) 5 := ⟨tb6 1 (by decide +kernel) (by decide +kernel), tb6 2 (by decide +kernel) (by decide +kernel), tb6 3 (by decide +kernel) (by decide +kernel), tb1 12 (by decide +kernel) (by decide +kernel), k_M_copy, by decide, by decide, by decide +kernel, by decide⟩
theorem vl_law_149 : VL R_law 149 y_X_lays c_X_lays 8 (some .int) 1 := ⟨tb4 77 (by decide +kernel) (by decide +kernel), tb4 78 (by decide +kernel) (by decide +kernel), tb4 79 (by decide +kernel) (by decide +kernel), tb1 1 (by decide +kernel) (by decide +kernel), k_X_lays, by decide, by decide, by decide +kernel, by decide⟩
theorem vl_law_152 : VL R_law 152 y_M_lays c_M_lays 6 (some .int) 1 := ⟨tb6 5 (by decide +kernel) (by decide +kernel), tb6 6 (by decide +kernel) (by decide +kernel), tb6 7 (by decide +kernel) (by decide +kernel), tb1 12 (by decide +kernel) (by decide +kernel), k_M_lays, by decide, by decide, by decide +kernel, by decide⟩
theorem vl_law_153 : VL R_law 153 y_X_book c_X_book 6 (some .int) 2 := ⟨tb4 86 (by decide +kernel) (by decide +kernel), tb4 87 (by decide +kernel) (by decide +kernel), tb4 88 (by decide +kernel) (by decide +kernel), tb1 1 (by decide +kernel) (by decide +kernel), k_X_book, by decide, by decide, by decide +kernel, by decide⟩
theorem vl_law_156 : VL R_law 156 y_M_book c_M_book 5 (some .int) 2 := ⟨tb6 10 (by decide +kernel) (by decide +kernel), tb6 11 (by decide +kernel) (by decide +kernel), tb6 12 (by decide +kernel) (by decide +kernel), tb1 12 (by decide +kernel) (by decide +kernel), k_M_book, by decide, by decide, by decide +kernel, by decide⟩
theorem vl_law_157 : VL R_law 157 y_X_read c_X_read 7 (some .int) 2 := ⟨tb4 94 (by decide +kernel) (by decide +kernel), tb4 95 (by decide +kernel) (by decide +kernel), tb4 96 (by decide +kernel) (by decide +kernel), tb1 1 (by decide +kernel) (by decide +kernel), k_X_read, by decide, by decide, by decide +kernel, by decide⟩
theorem vl_law_160 : VL R_law 160 y_M_read c_M_read 6 (some .int) 2 := ⟨tb6 18 (by decide +kernel) (by decide +kernel), tb6 19 (by decide +kernel) (by decide +kernel), tb6 20 (by decide +kernel) (by decide +kernel), tb1 12 (by decide +kernel) (by decide +kernel), k_M_read, by decide, by decide, by decide +kernel, by decide⟩
theorem vl_law_161 : VL R_law 161 y_X_image c_X_image 1 (some .int) 0 := ⟨tb4 102 (by decide +kernel) (by decide +kernel), tb4 103 (by decide +kernel) (by decide +kernel), tb4 104 (by decide +kernel) (by decide +kernel), tb1 1 (by decide +kernel) (by decide +kernel), k_X_image, by decide, by decide, by decide +kernel, by decide⟩
theorem vl_law_164 : VL R_law 164 y_M_image c_M_image 2 (some .int) 0 := ⟨tb6 26 (by decide +kernel) (by decide +kernel), tb6 27 (by decide +kernel) (by decide +kernel), tb6 28 (by decide +kernel) (by decide +kernel), tb1 12 (by decide +kernel) (by decide +kernel), k_M_image, by decide, by decide, by decide +kernel, by decide⟩
theorem vl_law_165 : VL R_law 165 y_X_undo c_X_undo 1 (some .int) 0 := ⟨tb4 106 (by decide +kernel) (by decide +kernel), tb4 107 (by decide +kernel) (by decide +kernel), tb4 108 (by decide +kernel) (by decide +kernel), tb1 1 (by decide +kernel) (by decide +kernel), k_X_undo, by decide, by decide, by decide +kernel, by decide⟩
theorem vl_law_168 : VL R_law 168 y_M_undo c_M_undo 2 (some .int) 0 := ⟨tb6 30 (by decide +kernel) (by decide +kernel), tb6 31 (by decide +kernel) (by decide +kernel), tb6 32 (by decide +kernel) (by decide +kernel), tb1 12 (by decide +kernel) (by decide +kernel), k_M_undo, by decide, by decide, by decide +kernel, by decide⟩
theorem vl_law_169 : VL R_law 169 y_X_tear c_X_tear 2 (some .int) 0 := ⟨tb4 110 (by decide +kernel) (by decide +kernel), tb4 111 (by decide +kernel) (by decide +kernel), tb4 112 (by decide +kernel) (by decide +kernel), tb1 1 (by decide +kernel) (by decide +kernel), k_X_tear, by decide, by decide, by decide +kernel, by decide⟩
theorem vl_law_172 : VL R_law 172 y_M_tear c_M_tear 2 (some .int) 0 := ⟨tb6 34 (by decide +kernel) (by decide +kernel), tb6 35 (by decide +kernel) (by decide +kernel), tb6 36 (by decide +kernel) (by decide +kernel), tb1 12 (by decide +kernel) (by decide +kernel), k_M_tear, by decide, by decide, by decide +kernel, by decide⟩
theorem vl_law_173 : VL R_law 173 y_X_count c_X_count 2 (some .int) 1 := ⟨tb4 114 (by decide +kernel) (by decide +kernel), tb4 115 (by decide +kernel) (by decide +kernel), tb4 116 (by decide +kernel) (by decide +kernel), tb1 1 (by decide +kernel) (by decide +kernel), k_X_count, by decide, by decide, by decide +kernel, by decide⟩
theorem vl_law_176 : VL R_law 176 y_M_count c_M_count 2 (some .int) 1 := ⟨tb6 38 (by decide +kernel) (by decide +kernel), tb6 39 (by decide +kernel) (by decide +kernel), tb6 40 (by decide +kernel) (by decide +kernel), tb1 12 (by decide +kernel) (by decide +kernel), k_M_count, by decide, by decide, by decide +kernel, by decide⟩
theorem vl_law_177 : VL R_law 177 y_X_status c_X_status 4 (some .int) 1 := ⟨tb4 122 (by decide +kernel) (by decide +kernel), tb4 123 (by decide +kernel) (by decide +kernel), tb4 124 (by decide +kernel) (by decide +kernel), tb1 1 (by decide +kernel) (by decide +kernel), k_X_status, by decide, by decide, by decide +kernel, by decide⟩
theorem vl_law_180 : VL R_law 180 y_M_status c_M_status 4 (some .int) 1 := ⟨tb6 42 (by decide +kernel) (by decide +kernel), tb6 43 (by decide +kernel) (by decide +kernel), tb6 44 (by decide +kernel) (by decide +kernel), tb1 12 (by decide +kernel) (by decide +kernel), k_M_status, by decide, by decide, by decide +kernel, by decide⟩
theorem cl_law_137 : Cond.constantLong R_law 137 4294967295 ∈ TB := tb6 46 (by decide +kernel) (by decide +kernel)
theorem il_law_9 : IL R_law 9 y_X_init c_X_init 8 0 := ⟨tb1 24 (by decide +kernel) (by decide +kernel), tb1 25 (by decide +kernel) (by decide +kernel), tb1 1 (by decide +kernel) (by decide +kernel), k_X_init, by decide, by decide, rfl, by decide +kernel, by decide⟩
theorem il_law_12 : IL R_law 12 y_M_init c_M_init 1 0 := ⟨tb4 128 (by decide +kernel) (by decide +kernel), tb4 129 (by decide +kernel) (by decide +kernel), tb1 12 (by decide +kernel) (by decide +kernel), k_M_init, by decide, by decide, rfl, by decide +kernel, by decide⟩
/-- the law behind the two makers -/
def Lc (x : Cx) (g : Gv) (b L : Nat) (xs : Nat → Int32) : Prop := match x with
  | (p, _, _, R, s, m, args, _, meth, c) => p.tables.exec = Jvm.exec ∧ c.code = code ∧ meth.sig.returnType = ret ∧ c.maxLocals = 4 ∧ s.vm.findClass R_law = some m.cls ∧ (∀ w ∈ TB, w.before args s = true) ∧ meth.locks = false ∧ R = room_1 ∧ args = #[Value.ref b] ∧ va_K g.1 classes (tysG g) s ∧ Inj g ∧ Ex g (fun q => s.heap.size ≤ q) s s.heap ∧ Sr g s ∧ va_X b L xs s s.heap ∧ b < s.heap.size ∧ ∀ a ∈ dom, s.heap.size ≤ gAd g a
def Lz (x : Cx) (g : Gv) (pc : Nat) (Lo : List (Nat × Value)) (st : List Value) (σ : Sg) : Prop := match x with
  | (p, l, e, R, s, m, args, below, meth, c) => ∀ (H : Heap) (locs : List Loc) (ls : Array Slot), va_P g.1 classes (W0 g σ) H → va_S (fun q => s.heap.size ≤ q) s.heap H locs → lv_has ls 4 Lo → W p l e R s m args below meth c H locs 73 1281 (lw_Z below args s) (F0 m pc ls st)
/-- its locals, n calls done -/
abbrev LL (g : Gv) (b n : Nat) : List (Nat × Value) := [(3, .int (iI (6 * n : Nat))), (2, .ref (gAd g (6, 0, 0))), (1, .ref (gAd g (0, 0, 0))), (0, .ref b)]
section LROWS
variable {x : Cx} {g : Gv} {b L n pc : Nat} {xs : Nat → Int32} {Lo Lo' : List (Nat × Value)} {st st0 st1 : List Value} {σ σ1 : Sg}
theorem l_iconst {n : Int} {v : Int32} (hc : Lc x g b L xs) (hd : decode code pc = .ok (.iconst n, 1)) (hv : Int32.ofInt n = v) (k : Lz x g (pc + 1) Lo (.int v :: st) σ) : Lz x g pc Lo st σ := by
  obtain ⟨p, l, e, R, s, m, args, below, meth, c⟩ := x
  intro H locs ls hP hS h
  exact lv_iconst hc.1 hc.2.1 hd hv (k H locs ls hP hS h)
theorem l_bipush {n : Int} {v : Int32} (hc : Lc x g b L xs) (hd : decode code pc = .ok (.bipush n, 2)) (hv : (Int8.ofInt n).toInt32 = v) (k : Lz x g (pc + 2) Lo (.int v :: st) σ) : Lz x g pc Lo st σ := by
  obtain ⟨p, l, e, R, s, m, args, below, meth, c⟩ := x
  intro H locs ls hP hS h
  exact lv_bipush hc.1 hc.2.1 hd hv (k H locs ls hP hS h)
theorem l_iload_n {n : Fin 4} {v : Int32} (hc : Lc x g b L xs) (hd : decode code pc = .ok (.iload_n n, 1)) (j : Nat) (hL : Lo[j]? = some ((n : Nat), .int v)) (k : Lz x g (pc + 1) Lo (.int v :: st) σ) : Lz x g pc Lo st σ := by
  obtain ⟨p, l, e, R, s, m, args, below, meth, c⟩ := x
  intro H locs ls hP hS h
  exact lv_iload_n hc.1 hc.2.1 hd rfl (lv_at h j hL) (k H locs ls hP hS h)
theorem l_aload_n {n : Fin 4} {v : Nat} (hc : Lc x g b L xs) (hd : decode code pc = .ok (.aload_n n, 1)) (j : Nat) (hL : Lo[j]? = some ((n : Nat), .ref v)) (k : Lz x g (pc + 1) Lo (.ref v :: st) σ) : Lz x g pc Lo st σ := by
  obtain ⟨p, l, e, R, s, m, args, below, meth, c⟩ := x
  intro H locs ls hP hS h
  exact lv_aload_n hc.1 hc.2.1 hd rfl (lv_at h j hL) (k H locs ls hP hS h)
theorem l_iadd {a b' : Int32} (hc : Lc x g b L xs) (hd : decode code pc = .ok (.iadd, 1)) (k : Lz x g (pc + 1) Lo (.int (a + b') :: st) σ) : Lz x g pc Lo (.int b' :: .int a :: st) σ := by
  obtain ⟨p, l, e, R, s, m, args, below, meth, c⟩ := x
  intro H locs ls hP hS h
  exact lv_iadd hc.1 hc.2.1 hd (k H locs ls hP hS h)
theorem l_isub {a b' : Int32} (hc : Lc x g b L xs) (hd : decode code pc = .ok (.isub, 1)) (k : Lz x g (pc + 1) Lo (.int (a - b') :: st) σ) : Lz x g pc Lo (.int b' :: .int a :: st) σ := by
  obtain ⟨p, l, e, R, s, m, args, below, meth, c⟩ := x
  intro H locs ls hP hS h
  exact lv_isub hc.1 hc.2.1 hd (k H locs ls hP hS h)
theorem l_iand {a b' : Int32} (hc : Lc x g b L xs) (hd : decode code pc = .ok (.iand, 1)) (k : Lz x g (pc + 1) Lo (.int (a &&& b') :: st) σ) : Lz x g pc Lo (.int b' :: .int a :: st) σ := by
  obtain ⟨p, l, e, R, s, m, args, below, meth, c⟩ := x
  intro H locs ls hP hS h
  exact lv_iand hc.1 hc.2.1 hd (k H locs ls hP hS h)
theorem l_i2l {a : Int32} (hc : Lc x g b L xs) (hd : decode code pc = .ok (.i2l, 1)) (k : Lz x g (pc + 1) Lo (.long a.toInt64 :: st) σ) : Lz x g pc Lo (.int a :: st) σ := by
  obtain ⟨p, l, e, R, s, m, args, below, meth, c⟩ := x
  intro H locs ls hP hS h
  exact lv_i2l hc.1 hc.2.1 hd rfl (k H locs ls hP hS h)
theorem l_lshl {a : Int64} {b' : Int32} (hc : Lc x g b L xs) (hd : decode code pc = .ok (.lshl, 1)) (k : Lz x g (pc + 1) Lo (.long (a <<< (b'.toInt64 &&& 63)) :: st) σ) : Lz x g pc Lo (.int b' :: .long a :: st) σ := by
  obtain ⟨p, l, e, R, s, m, args, below, meth, c⟩ := x
  intro H locs ls hP hS h
  exact lv_lshl hc.1 hc.2.1 hd rfl (k H locs ls hP hS h)
theorem l_land {a b' : Int64} (hc : Lc x g b L xs) (hd : decode code pc = .ok (.land, 1)) (k : Lz x g (pc + 1) Lo (.long (a &&& b') :: st) σ) : Lz x g pc Lo (.long b' :: .long a :: st) σ := by
  obtain ⟨p, l, e, R, s, m, args, below, meth, c⟩ := x
  intro H locs ls hP hS h
  exact lv_land hc.1 hc.2.1 hd (k H locs ls hP hS h)
theorem l_lor {a b' : Int64} (hc : Lc x g b L xs) (hd : decode code pc = .ok (.lor, 1)) (k : Lz x g (pc + 1) Lo (.long (a ||| b') :: st) σ) : Lz x g pc Lo (.long b' :: .long a :: st) σ := by
  obtain ⟨p, l, e, R, s, m, args, below, meth, c⟩ := x
  intro H locs ls hP hS h
  exact lv_lor hc.1 hc.2.1 hd (k H locs ls hP hS h)
theorem l_ldc2 {v : Int64} {idx : Nat} (hc : Lc x g b L xs) (hw : Cond.constantLong R_law idx v ∈ TB) (hd : decode code pc = .ok (.ldc2_w idx, 3)) (k : Lz x g (pc + 3) Lo (.long v :: st) σ) : Lz x g pc Lo st σ := by
  obtain ⟨p, l, e, R, s, m, args, below, meth, c⟩ := x
  intro H locs ls hP hS h
  exact lv_ldc2 hc.1 hc.2.1 hc.2.2.2.2.1 (hc.2.2.2.2.2.1 _ hw) hd (k H locs ls hP hS h)
theorem l_goto {off : Int} {tgt : Nat} (hc : Lc x g b L xs) (hd : decode code pc = .ok (.goto off, 3)) (ht : (pc : Int) + off = (tgt : Int)) (k : Lz x g tgt Lo st σ) : Lz x g pc Lo st σ := by
  obtain ⟨p, l, e, R, s, m, args, below, meth, c⟩ := x
  intro H locs ls hP hS h
  exact lv_goto hc.1 hc.2.1 hd ht (k H locs ls hP hS h)
theorem l_iinc {i : Nat} {n : Int} {y v : Int32} (hc : Lc x g b L xs) (hd : decode code pc = .ok (.iinc i n, 3)) (j : Nat) (hj : Lo[j]? = some (i, .int y)) (hv : y + Int32.ofInt n = v) (hn : i < 4) (hL : (i, Value.int v) :: Lo.filter (fun q => !(q.1 == i) && !(q.1 + 1 == i && q.2.category == 2)) = Lo') (k : Lz x g (pc + 3) Lo' st σ) : Lz x g pc Lo st σ := by
  obtain ⟨p, l, e, R, s, m, args, below, meth, c⟩ := x
  intro H locs ls hP hS h
  exact lv_iinc hc.1 hc.2.1 hd h hj hv hn hL (fun ls h => k H locs ls hP hS h)
theorem l_icmp_gt {a b' : Int32} {off : Int} {tgt : Nat} (hc : Lc x g b L xs) (hd : decode code pc = .ok (.if_icmp .gt off, 3)) (ht : (pc : Int) + off = (tgt : Int)) (kt : b' < a → Lz x g tgt Lo st σ) (kf : ¬ (b' < a) → Lz x g (pc + 3) Lo st σ) : Lz x g pc Lo (.int b' :: .int a :: st) σ := by
  obtain ⟨p, l, e, R, s, m, args, below, meth, c⟩ := x
  intro H locs ls hP hS h
  exact lv_icmp_gt hc.1 hc.2.1 hd ht (fun q => kt q H locs ls hP hS h) (fun q => kf q H locs ls hP hS h)
theorem l_eq {a : Int32} {off : Int} {tgt : Nat} (hc : Lc x g b L xs) (hd : decode code pc = .ok (.if_icmp .eq off, 3)) (ht : (pc : Int) + off = (tgt : Int)) (kt : Lz x g tgt Lo st σ) : Lz x g pc Lo (.int a :: .int a :: st) σ := by
  obtain ⟨p, l, e, R, s, m, args, below, meth, c⟩ := x
  intro H locs ls hP hS h
  exact lv_icmp_eq hc.1 hc.2.1 hd ht (fun _ => kt H locs ls hP hS h) (fun q => absurd rfl q)
theorem l_leq {a : Int64} {off : Int} {tgt : Nat} (hc : Lc x g b L xs) (hd : decode code pc = .ok (.lcmp, 1)) (hd2 : decode code (pc + 1) = .ok (.ifCond .eq off, 3)) (ht : ((pc + 1 : Nat) : Int) + off = (tgt : Int)) (kt : Lz x g tgt Lo st σ) : Lz x g pc Lo (.long a :: .long a :: st) σ := by
  obtain ⟨p, l, e, R, s, m, args, below, meth, c⟩ := x
  intro H locs ls hP hS h
  refine W.lcmp hc.1 hc.2.1 hd (lv_if_eq hc.1 hc.2.1 hd2 ht (fun _ => kt H locs ls hP hS h) (fun q => absurd ?_ q))
  unfold lg_cmp
  simp
theorem l_tab {a : Int32} {dflt lo hi : Int} {offs : Array Int} {len tgt : Nat} {off : Int} (hc : Lc x g b L xs) (hd : decode code pc = .ok (.tableswitch dflt lo hi offs, len)) (h1 : ¬ a.toInt < lo) (h2 : ¬ hi < a.toInt) (ho : offs[(a.toInt - lo).toNat]? = some off) (ht : (pc : Int) + off = (tgt : Int)) (k : Lz x g tgt Lo st σ) : Lz x g pc Lo (.int a :: st) σ := by
  obtain ⟨p, l, e, R, s, m, args, below, meth, c⟩ := x
  intro H locs ls hP hS h
  exact lv_tableIn hc.1 hc.2.1 hd h1 h2 ho ht (k H locs ls hP hS h)
theorem l_tabD {a : Int32} {dflt lo hi : Int} {offs : Array Int} {len tgt : Nat} (hc : Lc x g b L xs) (hd : decode code pc = .ok (.tableswitch dflt lo hi offs, len)) (h1 : a.toInt < lo ∨ hi < a.toInt) (ht : (pc : Int) + dflt = (tgt : Int)) (k : Lz x g tgt Lo st σ) : Lz x g pc Lo (.int a :: st) σ := by
  obtain ⟨p, l, e, R, s, m, args, below, meth, c⟩ := x
  intro H locs ls hP hS h
  exact lv_tableOut hc.1 hc.2.1 hd h1 ht (k H locs ls hP hS h)
theorem l_len (hc : Lc x g b L xs) (hd : decode code pc = .ok (.arraylength, 1)) (k : Lz x g (pc + 1) Lo (.int (iI (L : Int)) :: st) σ) : Lz x g pc Lo (.ref b :: st) σ := by
  obtain ⟨p, l, e, R, s, m, args, below, meth, c⟩ := x
  intro H locs ls hP hS h
  obtain ⟨hx, hb, hr, hml, hown, hts, hlk, hR, ha, hK, hI, hE, hT, hX, hbl, hA⟩ := hc
  exact va_slen hx hb hX hbl (Nat.not_le.mpr hbl) hS hd (k H locs ls hP hS h)
theorem l_ald {i : Int32} {j : Nat} (hc : Lc x g b L xs) (hd : decode code pc = .ok (.iaload, 1)) (hj : rd i L = some j) (k : Lz x g (pc + 1) Lo (.int (xs j) :: st) σ) : Lz x g pc Lo (.int i :: .ref b :: st) σ := by
  obtain ⟨p, l, e, R, s, m, args, below, meth, c⟩ := x
  intro H locs ls hP hS h
  obtain ⟨hx, hb, hr, hml, hown, hts, hlk, hR, ha, hK, hI, hE, hT, hX, hbl, hA⟩ := hc
  refine va_sld hx hb hX hbl (Nat.not_le.mpr hbl) hS (rd_in hj) hd ?_
  rw [rd_eq hj]
  exact k H locs ls hP hS h
/-- an argument: script[i + j] -/
theorem l_arg (j : Nat) {z : Int} (hc : Lc x g b L xs) (h1 : decode code pc = .ok (.aload_n 0, 1)) (h2 : decode code (pc + 1) = .ok (.iload_n 3, 1)) (h3 : decode code (pc + 2) = .ok (.iconst z, 1)) (h4 : decode code (pc + 3) = .ok (.iadd, 1)) (h5 : decode code (pc + 4) = .ok (.iaload, 1)) (hz : z = (j : Int)) (hn : 6 * n + j < L) (hL : L ≤ 3072) (k : Lz x g (pc + 5) (LL g b n) (.int (xs (6 * n + j)) :: st) σ) : Lz x g pc (LL g b n) st σ := by
  subst hz
  refine l_aload_n hc h1 3 rfl ?_
  refine l_iload_n hc h2 0 rfl ?_
  refine l_iconst hc h3 rfl ?_
  refine l_iadd hc h4 ?_
  refine l_ald (j := 6 * n + j) hc h5 ?_ k
  rw [show iI ((6 * n : Nat) : Int) + Int32.ofInt (j : Int) = iI ((6 * n + j : Nat) : Int) by
    rw [show Int32.ofInt (j : Int) = iI (j : Int) from rfl, iI_add]
    congr 1]
  exact rd_N hn (by omega)
theorem l_call {y : MethodName} {cc' : ByteArray} {nL' d' n' idx ci N : Nat} {ret' : Option FieldType} {T : u_T} {fs As : List Value} {rv : Option Value} (hc : Lc x g b L xs) (hd : decode code pc = .ok (.invokevirtual idx, 3)) (hv : VL R_law idx y cc' nL' ret' n') (hdd : d' + 1 ≤ 13) (a : Ad) (ha : a ∈ dom) (he : ent g σ a = .inr (ci, fs)) (hcl : classes[ci]? = some (y.cls, T, N)) (ho : Ok g y cc' nL' ret' d' (.ref (gAd g a) :: As) σ (rv, σ1)) (hn : As.length = n') (hs0 : st0 = As.reverse ++ .ref (gAd g a) :: st) (hst : (st.map (fun v => v.category)).sum ≤ 8) (hs1 : rv.toList ++ st = st1) (k : Lz x g (pc + 3) Lo st1 σ1) : Lz x g pc Lo st0 σ := by
  obtain ⟨p, l, e, R, s, m, args, below, meth, c⟩ := x
  intro H locs ls hP hS h
  obtain ⟨hx, hb, hr, hml, hown, hts, hlk, hR, har, hK, hI, hE, hT, hX, hbl, hA⟩ := hc
  obtain ⟨q, hq, hw⟩ := z_place (g := g) (σ := σ) ha
  rw [he] at hw
  subst hs1
  have hAs : ∀ q, AsG g H.size q → s.heap.size ≤ q := by
    intro q hq
    rcases hq with ⟨a, h1, h2⟩ | h1
    · rw [← h2]; exact hA a h1
    · exact Nat.le_trans hS.1 h1
  exact w_callV (d := 13) hx hb hml hown hts (by rw [hR]; exact Nat.le_refl _) (by rw [hR]; decide) (by rw [hR]; decide) (by rw [hR]; decide) hK hI ((hE.kept hS.2.1).narrow hAs) hT hP hS hAs hd hv hdd ho (va_recv hK hP hcl hw) hn hs0 hst h.1 (fun H1 locs1 hP1 _ _ hS1 => k H1 locs1 ls hP1 hS1 h)
/-- its end -/
theorem l_end (hc : Lc x g b L xs) (hd : decode code pc = .ok (.ireturn, 1)) : Lz x g pc Lo [.int 1] σ := by
  obtain ⟨p, l, e, R, s, m, args, below, meth, c⟩ := x
  intro H locs ls hP hS h
  obtain ⟨hx, hb, hr, hml, hown, hts, hlk, hR, har, hK, hI, hE, hT, hX, hbl, hA⟩ := hc
  subst hR
  subst har
  exact va_forget hS.2.2 (W.widen (by decide) (by decide) (lw_ret hx hb hr hlk hd))
end LROWS
