/-- what links a call to its method -/
def VL (own : String) (idx : Nat) (y : MethodName) (cc : ByteArray) (nL : Nat) (ret : Option FieldType) (n : Nat) : Prop :=
  Cond.methodLink own idx y ∈ TB ∧ Cond.instanceMethod y ∈ TB ∧ Cond.selects y.cls y y ∈ TB ∧ Cond.initialized y.cls ∈ TB ∧ Cond.code y cc nL ret ∈ TB ∧ y.cls ≠ "java/lang/invoke/MethodHandle" ∧ y.cls ≠ "java/lang/invoke/VarHandle" ∧ (parseMethodDescriptor y.desc).map (fun d => d.parameters.length) = some n ∧ nL ≤ 18
def SL (own : String) (idx : Nat) (y : MethodName) (cc : ByteArray) (nL : Nat) (ret : Option FieldType) (n : Nat) : Prop :=
  Cond.methodLink own idx y ∈ TB ∧ Cond.static y ∈ TB ∧ Cond.initialized y.cls ∈ TB ∧ Cond.code y cc nL ret ∈ TB ∧ y.cls ≠ "java/lang/invoke/MethodHandle" ∧ y.cls ≠ "java/lang/invoke/VarHandle" ∧ (parseMethodDescriptor y.desc).map (fun d => d.parameters.length) = some n ∧ nL ≤ 18
/-- a method of a kind, called on one of class C: x is named, y is run -/
def UL (own : String) (idx : Nat) (C : String) (x y : MethodName) (cc : ByteArray) (nL : Nat) (ret : Option FieldType) (n : Nat) : Prop :=
  Cond.methodLink own idx x ∈ TB ∧ Cond.sameMethod x.cls x.cls x.name x.desc ∈ TB ∧ Cond.instanceMethod x ∈ TB ∧ Cond.selects C x y ∈ TB ∧ Cond.instanceMethod y ∈ TB ∧ Cond.initialized y.cls ∈ TB ∧ Cond.code y cc nL ret ∈ TB ∧ (∃ b0 m0 r0, Cond.code x b0 m0 r0 ∈ TB) ∧ x.cls ≠ "java/lang/invoke/MethodHandle" ∧ x.cls ≠ "java/lang/invoke/VarHandle" ∧ (parseMethodDescriptor x.desc).map (fun d => d.parameters.length) = some n ∧ nL ≤ 18
def PL (own : String) (idx : Nat) (y : MethodName) (cc : ByteArray) (nL : Nat) (ret : Option FieldType) (n : Nat) : Prop :=
  Cond.methodLink own idx y ∈ TB ∧ Cond.sameMethod y.cls y.cls y.name y.desc ∈ TB ∧ Cond.superclass own y.cls ∈ TB ∧ Cond.instanceMethod y ∈ TB ∧ Cond.initialized y.cls ∈ TB ∧ Cond.code y cc nL ret ∈ TB ∧ y.name ≠ "<init>" ∧ (parseMethodDescriptor y.desc).map (fun d => d.parameters.length) = some n ∧ nL ≤ 18
theorem tb_ws {y : MethodName} {cc : ByteArray} {nL : Nat} {ret : Option FieldType} (h : Cond.code y cc nL ret ∈ TB) : ∀ w ∈ Cond.code y cc nL ret :: TB, w ∈ TB := fun w hw => (List.mem_cons.mp hw).elim (fun e => e ▸ h) id
theorem tb_good {y : MethodName} {cc : ByteArray} {nL : Nat} {ret : Option FieldType} (h : Cond.code y cc nL ret ∈ TB) : GoodIn TB (Cond.code y cc nL ret :: TB) := fun w hw => ⟨tb_ws h w hw, tbGood (tb_ws h w hw)⟩
theorem rm_fit {d d' nL : Nat} (h : d' + 1 ≤ d) (hn : nL ≤ 18) {R : Room} (hF : d ≤ R.frames) (hL : 37 * d ≤ R.locals) : (rmD d').frames + 1 ≤ R.frames ∧ 8 + (nL + 11) + (rmD d').locals ≤ R.locals := by
  refine ⟨Nat.le_trans h hF, ?_⟩
  show 8 + (nL + 11) + 37 * d' ≤ R.locals
  omega
section CALLS
variable {p : Program} {l : Launch} {e : Env} {R : Room} {s : State} {m : MethodId} {args : Array Value} {below : List Frame} {meth : Method} {c : Code} {H : Heap} {locs : List Loc} {cells slots : Nat} {Q : State → Prop}
variable {g : Gv} {cc cc' : ByteArray} {own : String} {nL nL' d d' n pc idx : Nat} {ret' : Option FieldType} {σ : Sg} {ρ : Option Value × Sg} {y : MethodName} {As rest st0 st1 : List Value} {ls : Array Slot} {A0 : Nat → Prop} {H0 : Heap}
/-- behind a call -/
theorem w_back {a : Array Value} (hr : va_Run p l e R s m args below meth c H locs cells slots 0 0 (F0 m pc ls st0) rest (Qz g ρ H.size a) (AsG g H.size)) (hS : va_S A0 H0 H locs) (hA : ∀ q, AsG g H.size q → A0 q)
    (kk : ∀ (H1 : Heap) (locs1 : List Loc), va_P g.1 classes (W0 g ρ.2) H1 → H.size ≤ H1.size → (∀ q : Nat, q < H.size → ¬ AsG g H.size q → H1[q]? = H[q]?) → va_S A0 H0 H1 locs1 → W p l e R s m args below meth c H1 locs1 cells slots Q (F0 m (pc + 3) ls (ρ.1.toList ++ rest))) : W p l e R s m args below meth c H locs cells slots Q (F0 m pc ls st0) := by
  intro T hT X
  obtain ⟨v, st₀, t, T', L, h0, X', hL, e1, e2, ⟨hv, hp, hz, hk⟩, st⟩ := hr T hT X
  cases hv
  rw [h0] at hz hk
  obtain ⟨t2, a1, b1⟩ := kk T'.heap (locs ++ L) (by rw [e1]; exact hp) (by rw [e1]; exact hz) (fun q h1 h2 => by rw [e1]; exact hk q h1 h2)
    ⟨Nat.le_trans hS.1 (by rw [e1]; exact hz), fun q h1 h2 => by rw [e1, hk q (Nat.lt_of_lt_of_le h1 hS.1) (fun z => h2 (hA q z))]; exact hS.2.1 q h1 h2, fun q hq => by
      rcases List.mem_append.mp hq with h | h
      · exact hS.2.2 q h
      · exact hA _ (hL q h)⟩ T' rfl X'
  exact ⟨t2, st t2 a1, b1⟩
/-- the callee's start, out of the caller's -/
theorem w_pre (hP : va_P g.1 classes (W0 g σ) H) (hK : va_K g.1 classes (tysG g) s) (hI : Inj g) (hE : Ex g (AsG g H.size) s H) (hR : Sr g s) : ∀ U : State, U.heap = H → s.WarmedH U.vm → va_Pc As (Pre g σ H.size) As.toArray U := by
  intro U hU hW
  refine ⟨rfl, by rw [hU], by rw [hU]; exact hP, va_K.moved hW.alike hK, hI, by rw [hU]; exact hE.moved hW.alike, fun q hq => (hR q hq).warm hW⟩
theorem w_callV {b : Nat} (hx : p.tables.exec = Jvm.exec) (hb : c.code = cc) (hml : c.maxLocals = nL) (hown : s.vm.findClass own = some m.cls) (hts : ∀ w ∈ TB, w.before args s = true) (hF : d ≤ R.frames) (hLo : 37 * d ≤ R.locals) (hrc : cells ≤ R.cells) (hrs : slots ≤ R.slots) (hK : va_K g.1 classes (tysG g) s) (hI : Inj g) (hE : Ex g (AsG g H.size) s H) (hR : Sr g s) (hP : va_P g.1 classes (W0 g σ) H) (hS : va_S A0 H0 H locs) (hA : ∀ q, AsG g H.size q → A0 q)
    (hd : decode cc pc = .ok (.invokevirtual idx, 3)) (hv : VL own idx y cc' nL' ret' n) (hdd : d' + 1 ≤ d) (ho : Ok g y cc' nL' ret' d' (.ref b :: As) σ ρ) (hre : ∃ cell : Cell, H[b]? = some cell ∧ cell.vm.isStatics = false ∧ s.vm.findClass y.cls = some cell.cls) (hn : As.length = n) (hs0 : st0 = As.reverse ++ .ref b :: rest) (hst : (rest.map (fun v => v.category)).sum ≤ 8) (hsz : ls.size = nL)
    (kk : ∀ (H1 : Heap) (locs1 : List Loc), va_P g.1 classes (W0 g ρ.2) H1 → H.size ≤ H1.size → (∀ q : Nat, q < H.size → ¬ AsG g H.size q → H1[q]? = H[q]?) → va_S A0 H0 H1 locs1 → W p l e R s m args below meth c H1 locs1 cells slots Q (F0 m (pc + 3) ls (ρ.1.toList ++ rest))) : W p l e R s m args below meth c H locs cells slots Q (F0 m pc ls st0) := by
  obtain ⟨v1, v2, v3, v4, v5, v6, v7, v8, v9⟩ := hv
  refine w_back (rest := rest) (va_runV (As := As) (rest := rest) (b := b) ⟨hx, hb, hml, hown, hts⟩ (ho l H.size) ⟨callB_of n hts (tb_good v5) rfl rfl rfl (hts _ v4) (hts _ v1) ⟨v6, v7, v8⟩ (rm_fit hdd v9 hF hLo), hts _ v2, hts _ v3⟩ ⟨Pre.blind, hre, w_pre (As := .ref b :: As) hP hK hI hE hR⟩ rfl hn hsz hs0 (lv_room hst) hd ⟨hrc, hrs⟩) hS hA kk
end CALLS
