/-- what links a call to its method -/
def VL (own : String) (idx : Nat) (y : MethodName) (cc : ByteArray) (nL : Nat) (ret : Option FieldType) (n : Nat) : Prop :=
  Cond.methodLink own idx y ∈ TB ∧ Cond.instanceMethod y ∈ TB ∧ Cond.selects y.cls y y ∈ TB ∧ Cond.initialized y.cls ∈ TB ∧ Cond.code y cc nL ret ∈ TB ∧ y.cls ≠ "java/lang/invoke/MethodHandle" ∧ y.cls ≠ "java/lang/invoke/VarHandle" ∧ (parseMethodDescriptor y.desc).map (fun d => d.parameters.length) = some n ∧ nL ≤ 18
def SL (own : String) (idx : Nat) (y : MethodName) (cc : ByteArray) (nL : Nat) (ret : Option FieldType) (n : Nat) : Prop :=
  Cond.methodLink own idx y ∈ TB ∧ Cond.static y ∈ TB ∧ Cond.initialized y.cls ∈ TB ∧ Cond.code y cc nL ret ∈ TB ∧ y.cls ≠ "java/lang/invoke/MethodHandle" ∧ y.cls ≠ "java/lang/invoke/VarHandle" ∧ (parseMethodDescriptor y.desc).map (fun d => d.parameters.length) = some n ∧ nL ≤ 18
/-- a method of a kind, called on one of class C: x is named, y is run -/
def UL (own : String) (idx : Nat) (C : String) (x y : MethodName) (cc : ByteArray) (nL : Nat) (ret : Option FieldType) (n : Nat) : Prop :=
  Cond.methodLink own idx x ∈ TB ∧ Cond.sameMethod x.cls x.cls x.name x.desc ∈ TB ∧ Cond.instanceMethod x ∈ TB ∧ Cond.selects C x y ∈ TB ∧ Cond.instanceMethod y ∈ TB ∧ Cond.initialized y.cls ∈ TB ∧ Cond.code y cc nL ret ∈ TB ∧ (∃ b0 m0 r0, Cond.code x b0 m0 r0 ∈ TB) ∧ x.cls ≠ "java/lang/invoke/MethodHandle" ∧ x.cls ≠ "java/lang/invoke/VarHandle" ∧ (parseMethodDescriptor x.desc).map (fun d => d.parameters.length) = some n ∧ nL ≤ 18
def PL (own : String) (idx : Nat) (y : MethodName) (cc : ByteArray) (nL : Nat) (ret : Option FieldType) (n : Nat) : Prop :=
  Cond.methodLink own idx y ∈ TB ∧ Cond.sameMethod y.cls y.cls y.name y.desc ∈ TB ∧ Cond.superclass own y.cls ∈ TB ∧ Cond.instanceMethod y ∈ TB ∧ Cond.initialized y.cls ∈ TB ∧ Cond.code y cc nL ret ∈ TB ∧ y.name ≠ "<init>" ∧ (parseMethodDescriptor y.desc).map (fun d => d.parameters.length) = some n ∧ nL ≤ 18
theorem tb_ws {y : MethodName} {cc : ByteArray} {nL : Nat} {ret : Option FieldType} (h : Cond.code y cc nL ret ∈ TB) : ∀ w ∈ Cond.code y cc nL ret :: TB, w ∈ TB := fun w hw => (List.mem_cons.mp hw).elim (fun e => e ▸ h) id
theorem tb_good {y : MethodName} {cc : ByteArray} {nL : Nat} {ret : Option FieldType} (h : Cond.code y cc nL ret ∈ TB) : GoodIn TB (Cond.code y cc nL ret :: TB) := fun w hw => ⟨tb_ws h w hw, tbGood (tb_ws h w hw)⟩
theorem rm_fit {d d' nL : Nat} (h : d' + 1 ≤ d) (hn : nL ≤ 18) {R : Room} (hF : d ≤ R.frames) (hL : 37 * d ≤ R.locals) : (rmD d').frames + 1 ≤ R.frames ∧ 8 + (nL + 11) + (rmD d').locals ≤ R.locals := by
  refine ⟨Nat.le_trans h hF, ?_⟩
  show 8 + (nL + 11) + 37 * d' ≤ R.locals
  omega
section CALLS
variable {p : Program} {l : Launch} {e : Env} {R : Room} {s : State} {m : MethodId} {args : Array Value} {below : List Frame} {meth : Method} {c : Code} {H : Heap} {locs : List Loc} {cells slots : Nat} {Q : State → Prop}
variable {g : Gv} {cc cc' : ByteArray} {own : String} {nL nL' d d' n pc idx : Nat} {ret' : Option FieldType} {σ : Sg} {ρ : Option Value × Sg} {y : MethodName} {As rest st0 st1 : List Value} {ls : Array Slot} {A0 : Nat → Prop} {H0 : Heap}
/-- behind a call -/
theorem w_back {a : Array Value} (hr : va_Run p l e R s m args below meth c H locs cells slots 0 0 (F0 m pc ls st0) rest (Qz g ρ H.size a) (AsG g H.size)) (hS : va_S A0 H0 H locs) (hA : ∀ q, AsG g H.size q → A0 q)
    (kk : ∀ (H1 : Heap) (locs1 : List Loc), va_P g.1 classes (W0 g ρ.2) H1 → H.size ≤ H1.size → (∀ q : Nat, q < H.size → ¬ AsG g H.size q → H1[q]? = H[q]?) → va_S A0 H0 H1 locs1 → W p l e R s m args below meth c H1 locs1 cells slots Q (F0 m (pc + 3) ls (ρ.1.toList ++ rest))) : W p l e R s m args below meth c H locs cells slots Q (F0 m pc ls st0) := by
  intro T hT X
  obtain ⟨v, st₀, t, T', L, h0, X', hL, e1, e2, ⟨hv, hp, hz, hk⟩, st⟩ := hr T hT X
  cases hv
  rw [h0] at hz hk
  obtain ⟨t2, a1, b1⟩ := kk T'.heap (locs ++ L) (by rw [e1]; exact hp) (by rw [e1]; exact hz) (fun q h1 h2 => by rw [e1]; exact hk q h1 h2)
    ⟨Nat.le_trans hS.1 (by rw [e1]; exact hz), fun q h1 h2 => by rw [e1, hk q (Nat.lt_of_lt_of_le h1 hS.1) (fun z => h2 (hA q z))]; exact hS.2.1 q h1 h2, fun q hq => by
      rcases List.mem_append.mp hq with h | h
      · exact hS.2.2 q h
      · exact hA _ (hL q h)⟩ T' rfl X'
  exact ⟨t2, st t2 a1, b1⟩
/-- the callee's start, out of the caller's -/
theorem w_pre (hP : va_P g.1 classes (W0 g σ) H) (hK : va_K g.1 classes (tysG g) s) (hI : Inj g) (hE : Ex g (AsG g H.size) s H) (hR : Sr g s) : ∀ U : State, U.heap = H → s.WarmedH U.vm → va_Pc As (Pre g σ H.size) As.toArray U := by
  intro U hU hW
  refine ⟨rfl, by rw [hU], by rw [hU]; exact hP, va_K.moved hW.alike hK, hI, by rw [hU]; exact hE.moved hW.alike, fun q hq => (hR q hq).warm hW⟩
theorem w_callV {b : Nat} (hx : p.tables.exec = Jvm.exec) (hb : c.code = cc) (hml : c.maxLocals = nL) (hown : s.vm.findClass own = some m.cls) (hts : ∀ w ∈ TB, w.before args s = true) (hF : d ≤ R.frames) (hLo : 37 * d ≤ R.locals) (hrc : cells ≤ R.cells) (hrs : slots ≤ R.slots) (hK : va_K g.1 classes (tysG g) s) (hI : Inj g) (hE : Ex g (AsG g H.size) s H) (hR : Sr g s) (hP : va_P g.1 classes (W0 g σ) H) (hS : va_S A0 H0 H locs) (hA : ∀ q, AsG g H.size q → A0 q)
    (hd : decode cc pc = .ok (.invokevirtual idx, 3)) (hv : VL own idx y cc' nL' ret' n) (hdd : d' + 1 ≤ d) (ho : Ok g y cc' nL' ret' d' (.ref b :: As) σ ρ) (hre : ∃ cell : Cell, H[b]? = some cell ∧ cell.vm.isStatics = false ∧ s.vm.findClass y.cls = some cell.cls) (hn : As.length = n) (hs0 : st0 = As.reverse ++ .ref b :: rest) (hst : (rest.map (fun v => v.category)).sum ≤ 8) (hsz : ls.size = nL)
    (kk : ∀ (H1 : Heap) (locs1 : List Loc), va_P g.1 classes (W0 g ρ.2) H1 → H.size ≤ H1.size → (∀ q : Nat, q < H.size → ¬ AsG g H.size q → H1[q]? = H[q]?) → va_S A0 H0 H1 locs1 → W p l e R s m args below meth c H1 locs1 cells slots Q (F0 m (pc + 3) ls (ρ.1.toList ++ rest))) : W p l e R s m args below meth c H locs cells slots Q (F0 m pc ls st0) := by
  obtain ⟨v1, v2, v3, v4, v5, v6, v7, v8, v9⟩ := hv
  refine w_back (rest := rest) (va_runV (As := As) (rest := rest) (b := b) ⟨hx, hb, hml, hown, hts⟩ (ho l H.size) ⟨callB_of n hts (tb_good v5) rfl rfl rfl (hts _ v4) (hts _ v1) ⟨v6, v7, v8⟩ (rm_fit hdd v9 hF hLo), hts _ v2, hts _ v3⟩ ⟨Pre.blind, hre, w_pre (As := .ref b :: As) hP hK hI hE hR⟩ rfl hn hsz hs0 (lv_room hst) hd ⟨hrc, hrs⟩) hS hA kk
theorem w_callS (hx : p.tables.exec = Jvm.exec) (hb : c.code = cc) (hml : c.maxLocals = nL) (hown : s.vm.findClass own = some m.cls) (hts : ∀ w ∈ TB, w.before args s = true) (hF : d ≤ R.frames) (hLo : 37 * d ≤ R.locals) (hrc : cells ≤ R.cells) (hrs : slots ≤ R.slots) (hK : va_K g.1 classes (tysG g) s) (hI : Inj g) (hE : Ex g (AsG g H.size) s H) (hR : Sr g s) (hP : va_P g.1 classes (W0 g σ) H) (hS : va_S A0 H0 H locs) (hA : ∀ q, AsG g H.size q → A0 q)
    (hd : decode cc pc = .ok (.invokestatic idx, 3)) (hv : SL own idx y cc' nL' ret' n) (hdd : d' + 1 ≤ d) (ho : Ok g y cc' nL' ret' d' As σ ρ) (hn : As.length = n) (hs0 : st0 = As.reverse ++ rest) (hst : (rest.map (fun v => v.category)).sum ≤ 8) (hsz : ls.size = nL)
    (kk : ∀ (H1 : Heap) (locs1 : List Loc), va_P g.1 classes (W0 g ρ.2) H1 → H.size ≤ H1.size → (∀ q : Nat, q < H.size → ¬ AsG g H.size q → H1[q]? = H[q]?) → va_S A0 H0 H1 locs1 → W p l e R s m args below meth c H1 locs1 cells slots Q (F0 m (pc + 3) ls (ρ.1.toList ++ rest))) : W p l e R s m args below meth c H locs cells slots Q (F0 m pc ls st0) := by
  obtain ⟨v1, v2, v4, v5, v6, v7, v8, v9⟩ := hv
  refine w_back (rest := rest) (va_runS (As := As) (rest := rest) ⟨hx, hb, hml, hown, hts⟩ (ho l H.size) ⟨callB_of n hts (tb_good v5) rfl rfl rfl (hts _ v4) (hts _ v1) ⟨v6, v7, v8⟩ (rm_fit hdd v9 hF hLo), hts _ v2⟩ ⟨Pre.blind, w_pre (As := As) hP hK hI hE hR⟩ rfl hn hsz hs0 (lv_room hst) hd ⟨hrc, hrs⟩) hS hA kk
theorem w_callU {b : Nat} {C : String} {x : MethodName} (hx : p.tables.exec = Jvm.exec) (hb : c.code = cc) (hml : c.maxLocals = nL) (hown : s.vm.findClass own = some m.cls) (hts : ∀ w ∈ TB, w.before args s = true) (hF : d ≤ R.frames) (hLo : 37 * d ≤ R.locals) (hrc : cells ≤ R.cells) (hrs : slots ≤ R.slots) (hK : va_K g.1 classes (tysG g) s) (hI : Inj g) (hE : Ex g (AsG g H.size) s H) (hR : Sr g s) (hP : va_P g.1 classes (W0 g σ) H) (hS : va_S A0 H0 H locs) (hA : ∀ q, AsG g H.size q → A0 q)
    (hd : decode cc pc = .ok (.invokevirtual idx, 3)) (hv : UL own idx C x y cc' nL' ret' n) (hdd : d' + 1 ≤ d) (ho : Ok g y cc' nL' ret' d' (.ref b :: As) σ ρ) (hre : ∃ cell : Cell, H[b]? = some cell ∧ cell.vm.isStatics = false ∧ s.vm.findClass C = some cell.cls) (hn : As.length = n) (hs0 : st0 = As.reverse ++ .ref b :: rest) (hst : (rest.map (fun v => v.category)).sum ≤ 8) (hsz : ls.size = nL)
    (kk : ∀ (H1 : Heap) (locs1 : List Loc), va_P g.1 classes (W0 g ρ.2) H1 → H.size ≤ H1.size → (∀ q : Nat, q < H.size → ¬ AsG g H.size q → H1[q]? = H[q]?) → va_S A0 H0 H1 locs1 → W p l e R s m args below meth c H1 locs1 cells slots Q (F0 m (pc + 3) ls (ρ.1.toList ++ rest))) : W p l e R s m args below meth c H locs cells slots Q (F0 m pc ls st0) := by
  obtain ⟨v1, v2, v3, v3', v4, v5, v6, ⟨b0, m0, r0, v7⟩, v8, v9, v10, v11⟩ := hv
  refine w_back (rest := rest) (va_runU (x := x) (C := C) (owner := x.cls) (As := As) (rest := rest) (b := b) ⟨hx, hb, hml, hown, hts⟩ (ho l H.size) ⟨⟨rfl, rfl, (rm_fit hdd v11 hF hLo).1, (rm_fit hdd v11 hF hLo).2, pay_in hts (tb_good v6), List.mem_cons_self⟩, hts _ v6, hts _ v5, ⟨v8, v9⟩, fun sig h => by rw [h] at v10; exact (Option.some.inj v10).symm, hts _ v1, hts _ v2, va_Decl.of (hts _ v3) (hts _ v7), hts _ v3', hts _ v4⟩ ⟨Pre.blind, hre, w_pre (As := .ref b :: As) hP hK hI hE hR⟩ rfl hn hsz hs0 (lv_room hst) hd ⟨hrc, hrs⟩) hS hA kk
theorem w_callP {b : Nat} {C : String} {cC : ClassId} (hat : ClassAt s C cC) (hx : p.tables.exec = Jvm.exec) (hb : c.code = cc) (hml : c.maxLocals = nL) (hown : s.vm.findClass own = some m.cls) (hts : ∀ w ∈ TB, w.before args s = true) (hF : d ≤ R.frames) (hLo : 37 * d ≤ R.locals) (hrc : cells ≤ R.cells) (hrs : slots ≤ R.slots) (hK : va_K g.1 classes (tysG g) s) (hI : Inj g) (hE : Ex g (AsG g H.size) s H) (hR : Sr g s) (hP : va_P g.1 classes (W0 g σ) H) (hS : va_S A0 H0 H locs) (hA : ∀ q, AsG g H.size q → A0 q)
    (hd : decode cc pc = .ok (.invokespecial idx, 3)) (hv : PL own idx y cc' nL' ret' n) (hdd : d' + 1 ≤ d) (ho : Ok g y cc' nL' ret' d' (.ref b :: As) σ ρ) (hre : ∃ cell : Cell, H[b]? = some cell ∧ cell.vm.isStatics = false ∧ s.vm.findClass C = some cell.cls) (hn : As.length = n) (hs0 : st0 = As.reverse ++ .ref b :: rest) (hst : (rest.map (fun v => v.category)).sum ≤ 8) (hsz : ls.size = nL)
    (kk : ∀ (H1 : Heap) (locs1 : List Loc), va_P g.1 classes (W0 g ρ.2) H1 → H.size ≤ H1.size → (∀ q : Nat, q < H.size → ¬ AsG g H.size q → H1[q]? = H[q]?) → va_S A0 H0 H1 locs1 → W p l e R s m args below meth c H1 locs1 cells slots Q (F0 m (pc + 3) ls (ρ.1.toList ++ rest))) : W p l e R s m args below meth c H locs cells slots Q (F0 m pc ls st0) := by
  obtain ⟨v1, v2, v3, v4, v5, v6, v8, v10, v11⟩ := hv
  refine w_back (rest := rest) (va_runSU (C := C) hat (As := As) (rest := rest) (b := b) ⟨hx, hb, hml, hown, hts⟩ (ho l H.size) ⟨⟨rfl, rfl, (rm_fit hdd v11 hF hLo).1, (rm_fit hdd v11 hF hLo).2, pay_in hts (tb_good v6), List.mem_cons_self⟩, hts _ v1, hts _ v2, hts _ v3, hts _ v4, hts _ v5, hts _ v6, v8, fun sig h => by rw [h] at v10; exact (Option.some.inj v10).symm⟩ ⟨Pre.blind, hre, w_pre (As := .ref b :: As) hP hK hI hE hR⟩ rfl hn hsz hs0 (lv_room hst) hd ⟨hrc, hrs⟩) hS hA kk
end CALLS
section ZCALLS
variable {x : Cx} {g : Gv} {cc cc' : ByteArray} {own : String} {nL nL' d d' n pc idx : Nat} {ret ret' : Option FieldType} {ρ : Option Value × Sg} {L L' : List (Nat × Value)} {st st0 st1 : List Value} {σ σ1 : Sg} {y : MethodName} {As : List Value} {rv : Option Value}
theorem z_hE {s : State} {H : Heap} {locs : List Loc} (hE : Ex g (AsG g s.heap.size) s s.heap) (hS : va_S (AsG g s.heap.size) s.heap H locs) : Ex g (AsG g H.size) s H := (hE.kept hS.2.1).narrow (fun _ k => AsG.mono hS.1 k)
theorem z_callV {fs : List Value} {ci N : Nat} {T : u_T} (hc : Zc x g cc own nL ret d) (hd : decode cc pc = .ok (.invokevirtual idx, 3)) (hv : VL own idx y cc' nL' ret' n) (hdd : d' + 1 ≤ d) (a : Ad) (ha : a ∈ dom) (he : ent g σ a = .inr (ci, fs)) (hcl : classes[ci]? = some (y.cls, T, N)) (ho : Ok g y cc' nL' ret' d' (.ref (gAd g a) :: As) σ (rv, σ1)) (hn : As.length = n) (hs0 : st0 = As.reverse ++ .ref (gAd g a) :: st) (hst : (st.map (fun v => v.category)).sum ≤ 8) (hs1 : rv.toList ++ st = st1) (k : Z x g nL ρ (pc + 3) L st1 σ1) : Z x g nL ρ pc L st0 σ := by
  obtain ⟨p, l, e, R, s, m, args, below, meth, c⟩ := x
  intro H locs ls hP hS h
  obtain ⟨hx, hb, hr, hml, hown, hts, hlk, hR, hK, hI, hE, hT⟩ := hc
  obtain ⟨q, hq, hw⟩ := z_place (g := g) (σ := σ) ha
  rw [he] at hw
  subst hs1
  exact w_callV (d := d) hx hb hml hown hts (by rw [hR]; exact Nat.le_refl _) (by rw [hR]; exact Nat.le_refl _) (Nat.zero_le _) (Nat.zero_le _) hK hI (z_hE hE hS) hT hP hS (fun _ z => AsG.mono hS.1 z) hd hv hdd ho (va_recv hK hP hcl hw) hn hs0 hst h.1 (fun H1 locs1 hP1 _ _ hS1 => k H1 locs1 ls hP1 hS1 h)
theorem z_callS (hc : Zc x g cc own nL ret d) (hd : decode cc pc = .ok (.invokestatic idx, 3)) (hv : SL own idx y cc' nL' ret' n) (hdd : d' + 1 ≤ d) (ho : Ok g y cc' nL' ret' d' As σ (rv, σ1)) (hn : As.length = n) (hs0 : st0 = As.reverse ++ st) (hst : (st.map (fun v => v.category)).sum ≤ 8) (hs1 : rv.toList ++ st = st1) (k : Z x g nL ρ (pc + 3) L st1 σ1) : Z x g nL ρ pc L st0 σ := by
  obtain ⟨p, l, e, R, s, m, args, below, meth, c⟩ := x
  intro H locs ls hP hS h
  obtain ⟨hx, hb, hr, hml, hown, hts, hlk, hR, hK, hI, hE, hT⟩ := hc
  subst hs1
  exact w_callS (d := d) hx hb hml hown hts (by rw [hR]; exact Nat.le_refl _) (by rw [hR]; exact Nat.le_refl _) (Nat.zero_le _) (Nat.zero_le _) hK hI (z_hE hE hS) hT hP hS (fun _ z => AsG.mono hS.1 z) hd hv hdd ho hn hs0 hst h.1 (fun H1 locs1 hP1 _ _ hS1 => k H1 locs1 ls hP1 hS1 h)
theorem z_callU {y0 : MethodName} {C : String} {fs : List Value} {ci N : Nat} {T : u_T} (hc : Zc x g cc own nL ret d) (hd : decode cc pc = .ok (.invokevirtual idx, 3)) (hv : UL own idx C y0 y cc' nL' ret' n) (hdd : d' + 1 ≤ d) (a : Ad) (ha : a ∈ dom) (he : ent g σ a = .inr (ci, fs)) (hcl : classes[ci]? = some (C, T, N)) (ho : Ok g y cc' nL' ret' d' (.ref (gAd g a) :: As) σ (rv, σ1)) (hn : As.length = n) (hs0 : st0 = As.reverse ++ .ref (gAd g a) :: st) (hst : (st.map (fun v => v.category)).sum ≤ 8) (hs1 : rv.toList ++ st = st1) (k : Z x g nL ρ (pc + 3) L st1 σ1) : Z x g nL ρ pc L st0 σ := by
  obtain ⟨p, l, e, R, s, m, args, below, meth, c⟩ := x
  intro H locs ls hP hS h
  obtain ⟨hx, hb, hr, hml, hown, hts, hlk, hR, hK, hI, hE, hT⟩ := hc
  obtain ⟨q, hq, hw⟩ := z_place (g := g) (σ := σ) ha
  rw [he] at hw
  subst hs1
  exact w_callU (d := d) hx hb hml hown hts (by rw [hR]; exact Nat.le_refl _) (by rw [hR]; exact Nat.le_refl _) (Nat.zero_le _) (Nat.zero_le _) hK hI (z_hE hE hS) hT hP hS (fun _ z => AsG.mono hS.1 z) hd hv hdd ho (va_recv hK hP hcl hw) hn hs0 hst h.1 (fun H1 locs1 hP1 _ _ hS1 => k H1 locs1 ls hP1 hS1 h)
theorem z_callP {C : String} {fs : List Value} {ci N : Nat} {T : u_T} (hc : Zc x g cc own nL ret d) (hd : decode cc pc = .ok (.invokespecial idx, 3)) (hv : PL own idx y cc' nL' ret' n) (hdd : d' + 1 ≤ d) (a : Ad) (ha : a ∈ dom) (he : ent g σ a = .inr (ci, fs)) (hcl : classes[ci]? = some (C, T, N)) (ho : Ok g y cc' nL' ret' d' (.ref (gAd g a) :: As) σ (rv, σ1)) (hn : As.length = n) (hs0 : st0 = As.reverse ++ .ref (gAd g a) :: st) (hst : (st.map (fun v => v.category)).sum ≤ 8) (hs1 : rv.toList ++ st = st1) (k : Z x g nL ρ (pc + 3) L st1 σ1) : Z x g nL ρ pc L st0 σ := by
  obtain ⟨p, l, e, R, s, m, args, below, meth, c⟩ := x
  intro H locs ls hP hS h
  obtain ⟨hx, hb, hr, hml, hown, hts, hlk, hR, hK, hI, hE, hT⟩ := hc
  obtain ⟨q, hq, hw⟩ := z_place (g := g) (σ := σ) ha
  rw [he] at hw
  subst hs1
  exact w_callP (d := d) (C := C) (hK.1 ci _ hcl).2 hx hb hml hown hts (by rw [hR]; exact Nat.le_refl _) (by rw [hR]; exact Nat.le_refl _) (Nat.zero_le _) (Nat.zero_le _) hK hI (z_hE hE hS) hT hP hS (fun _ z => AsG.mono hS.1 z) hd hv hdd ho (va_recv hK hP hcl hw) hn hs0 hst h.1 (fun H1 locs1 hP1 _ _ hS1 => k H1 locs1 ls hP1 hS1 h)
/-- Math.max, Math.min: links -/
def ML (own : String) (idx : Nat) (y : MethodName) (cc : ByteArray) : Prop := Cond.methodLink own idx y ∈ TB ∧ Cond.static y ∈ TB ∧ Cond.initialized "java/lang/Math" ∈ TB ∧ Cond.code y cc 2 (some .int) ∈ TB
theorem z_max {a b : Int32} (hc : Zc x g cc own nL ret d) (hd : decode cc pc = .ok (.invokestatic idx, 3)) (hv : ML own idx Lib.Math.max.name Lib.Math.max.code) (hdd : 1 ≤ d) (hst : (st.map (fun v => v.category)).sum ≤ 8) (k : Z x g nL ρ (pc + 3) L (.int (if a < b then b else a) :: st) σ) : Z x g nL ρ pc L (.int b :: .int a :: st) σ := by
  obtain ⟨p, l, e, R, s, m, args, below, meth, c⟩ := x
  intro H locs ls hP hS h
  obtain ⟨hx, hb, hr, hml, hown, hts, hlk, hR, hK, hI, hE, hT⟩ := hc
  obtain ⟨v1, v2, v3, v4⟩ := hv
  exact va_mmax hx hb (hml.trans h.1.symm) hown (hts _ v1) (hts _ v2) (hts _ v3) (hts _ v4) (by rw [hR]; exact hdd) (by rw [hR]; show _ ≤ 37 * d; omega) (Nat.zero_le _) (Nat.zero_le _) hd (k H locs ls hP hS h)
theorem z_min {a b : Int32} (hc : Zc x g cc own nL ret d) (hd : decode cc pc = .ok (.invokestatic idx, 3)) (hv : ML own idx Lib.Math.min.name Lib.Math.min.code) (hdd : 1 ≤ d) (hst : (st.map (fun v => v.category)).sum ≤ 8) (k : Z x g nL ρ (pc + 3) L (.int (if b < a then b else a) :: st) σ) : Z x g nL ρ pc L (.int b :: .int a :: st) σ := by
  obtain ⟨p, l, e, R, s, m, args, below, meth, c⟩ := x
  intro H locs ls hP hS h
  obtain ⟨hx, hb, hr, hml, hown, hts, hlk, hR, hK, hI, hE, hT⟩ := hc
  obtain ⟨v1, v2, v3, v4⟩ := hv
  exact va_mmin hx hb (hml.trans h.1.symm) hown (hts _ v1) (hts _ v2) (hts _ v3) (hts _ v4) (by rw [hR]; exact hdd) (by rw [hR]; show _ ≤ 37 * d; omega) (Nat.zero_le _) (Nat.zero_le _) hd (k H locs ls hP hS h)
/-- System.arraycopy -/
def AL (own : String) (idx : Nat) : Prop := Cond.methodLink own idx arraycopyName ∈ TB ∧ Cond.native arraycopyName ∈ TB ∧ Cond.static arraycopyName ∈ TB ∧ Cond.initialized "java/lang/System" ∈ TB
/-- n places of a row of n0 from sp on, of one of n1 from dp on -/
def cpOk (sp dp n : Int32) (n0 n1 : Nat) : Option (Nat × Nat × Nat) := if sp < 0 ∨ dp < 0 ∨ n < 0 ∨ n0 < sp.toNatClampNeg + n.toNatClampNeg ∨ n1 < dp.toNatClampNeg + n.toNatClampNeg then none else some (sp.toNatClampNeg, dp.toNatClampNeg, n.toNatClampNeg)
theorem cpOk_spec {sp dp n : Int32} {n0 n1 : Nat} {q : Nat × Nat × Nat} (h : cpOk sp dp n n0 n1 = some q) : ¬ sp < 0 ∧ ¬ dp < 0 ∧ ¬ n < 0 ∧ sp.toNatClampNeg + n.toNatClampNeg ≤ n0 ∧ dp.toNatClampNeg + n.toNatClampNeg ≤ n1 ∧ q = (sp.toNatClampNeg, dp.toNatClampNeg, n.toNatClampNeg) := by
  unfold cpOk at h
  split at h
  · cases h
  · rename_i hq
    exact ⟨fun z => hq (Or.inl z), fun z => hq (Or.inr (Or.inl z)), fun z => hq (Or.inr (Or.inr (Or.inl z))), Nat.not_lt.mp fun z => hq (Or.inr (Or.inr (Or.inr (Or.inl z)))), Nat.not_lt.mp fun z => hq (Or.inr (Or.inr (Or.inr (Or.inr z)))), (Option.some.inj h).symm⟩
theorem z_cpI {a0 a1 : Ad} {n0 n1 : Nat} {f h : Nat → Int32} {sp dp n : Int32} {q : Nat × Nat × Nat} (hc : Zc x g cc own nL ret d) (hd : decode cc pc = .ok (.invokestatic idx, 3)) (hv : AL own idx) (hdd : 1 ≤ d) (hst : (st.map (fun v => v.category)).sum ≤ 8) (ha0 : a0 ∈ dom) (ha1 : a1 ∈ dom) (he0 : ent g σ a0 = .inl (cInt g, n0, .inl f)) (he1 : ent g σ a1 = .inl (cInt g, n1, .inl h)) (hq : cpOk sp dp n n0 n1 = some q) (hs : ent g σ1 a1 = .inl (cInt g, n1, .inl (va_cpy f h q.1 q.2.1 q.2.2))) (ho : ∀ b : Ad, b ≠ a1 → ent g σ1 b = ent g σ b) (k : Z x g nL ρ (pc + 3) L st σ1) : Z x g nL ρ pc L (.int n :: .int dp :: .ref (gAd g a1) :: .int sp :: .ref (gAd g a0) :: st) σ := by
  obtain ⟨p, l, e, R, s, m, args, below, meth, c⟩ := x
  intro H locs ls hP hS hl
  obtain ⟨hx, hb, hr, hml, hown, hts, hlk, hR, hK, hI, hE, hT⟩ := hc
  obtain ⟨v1, v2, v3, v4⟩ := hv
  obtain ⟨w1, w2, w3, w4, w5, rfl⟩ := cpOk_spec hq
  obtain ⟨q0, hq0, hw0⟩ := z_place (g := g) (σ := σ) ha0
  obtain ⟨q1, hq1, hw1⟩ := z_place (g := g) (σ := σ) ha1
  rw [he0] at hw0
  rw [he1] at hw1
  refine va_copyi hx hb (hml.trans hl.1.symm) hown (hts _ v1) (hts _ v2) (hts _ v3) (hts _ v4) hK hP (W0_D hI σ s.heap.size) hS q0 q1 0 0 hw0 hw1 rfl rfl rfl w1 w2 w3 w4 w5 (fun _ _ => rfl) (by rw [hR]; exact hdd) (by rw [hR]; show _ + (5 + 11) ≤ 37 * d; omega) hd (fun H1 locs1 hP1 hD1 hS1 => ?_)
  rw [W0_set hq1 hs ho] at hP1
  exact k H1 locs1 ls hP1 hS1 hl
theorem z_cpL {a0 a1 : Ad} {n0 n1 : Nat} {f h : Nat → Int64} {sp dp n : Int32} {q : Nat × Nat × Nat} (hc : Zc x g cc own nL ret d) (hd : decode cc pc = .ok (.invokestatic idx, 3)) (hv : AL own idx) (hdd : 1 ≤ d) (hst : (st.map (fun v => v.category)).sum ≤ 8) (ha0 : a0 ∈ dom) (ha1 : a1 ∈ dom) (he0 : ent g σ a0 = .inl (cLong g, n0, .inr (.inl f))) (he1 : ent g σ a1 = .inl (cLong g, n1, .inr (.inl h))) (hq : cpOk sp dp n n0 n1 = some q) (hs : ent g σ1 a1 = .inl (cLong g, n1, .inr (.inl (va_cpy f h q.1 q.2.1 q.2.2)))) (ho : ∀ b : Ad, b ≠ a1 → ent g σ1 b = ent g σ b) (k : Z x g nL ρ (pc + 3) L st σ1) : Z x g nL ρ pc L (.int n :: .int dp :: .ref (gAd g a1) :: .int sp :: .ref (gAd g a0) :: st) σ := by
  obtain ⟨p, l, e, R, s, m, args, below, meth, c⟩ := x
  intro H locs ls hP hS hl
  obtain ⟨hx, hb, hr, hml, hown, hts, hlk, hR, hK, hI, hE, hT⟩ := hc
  obtain ⟨v1, v2, v3, v4⟩ := hv
  obtain ⟨w1, w2, w3, w4, w5, rfl⟩ := cpOk_spec hq
  obtain ⟨q0, hq0, hw0⟩ := z_place (g := g) (σ := σ) ha0
  obtain ⟨q1, hq1, hw1⟩ := z_place (g := g) (σ := σ) ha1
  rw [he0] at hw0
  rw [he1] at hw1
  refine va_copyl hx hb (hml.trans hl.1.symm) hown (hts _ v1) (hts _ v2) (hts _ v3) (hts _ v4) hK hP (W0_D hI σ s.heap.size) hS q0 q1 1 1 hw0 hw1 rfl rfl rfl w1 w2 w3 w4 w5 (fun _ _ => rfl) (by rw [hR]; exact hdd) (by rw [hR]; show _ + (5 + 11) ≤ 37 * d; omega) hd (fun H1 locs1 hP1 hD1 hS1 => ?_)
  rw [W0_set hq1 hs ho] at hP1
  exact k H1 locs1 ls hP1 hS1 hl
end ZCALLS
/-- the state, changed -/
def upI (σ : Sg) (t i j k : Nat) (v : Int32) : Sg := (fun t' i' j' k' => if t' = t ∧ i' = i ∧ j' = j ∧ k' = k then v else σ.1 t' i' j' k', σ.2)
def upL (σ : Sg) (t i j k : Nat) (v : Int64) : Sg := (σ.1, fun t' i' j' k' => if t' = t ∧ i' = i ∧ j' = j ∧ k' = k then v else σ.2.1 t' i' j' k', σ.2.2)
def upK (σ : Sg) (t i j : Nat) (v : Nat) : Sg := (σ.1, σ.2.1, fun t' i' j' => if t' = t ∧ i' = i ∧ j' = j then v else σ.2.2 t' i' j')
def roI (σ : Sg) (t i j : Nat) (f : Nat → Int32) : Sg := (fun t' i' j' k' => if t' = t ∧ i' = i ∧ j' = j then f k' else σ.1 t' i' j' k', σ.2)
def roL (σ : Sg) (t i j : Nat) (f : Nat → Int64) : Sg := (σ.1, fun t' i' j' k' => if t' = t ∧ i' = i ∧ j' = j then f k' else σ.2.1 t' i' j' k', σ.2.2)
theorem ad_ne {b : Ad} {t i j : Nat} (h : b ≠ (t, i, j)) : ¬ (b.1 = t ∧ b.2.1 = i ∧ b.2.2 = j) := fun ⟨h1, h2, h3⟩ => h (by obtain ⟨a, c, e⟩ := b; simp only at h1 h2 h3; rw [h1, h2, h3])
theorem ent_upI {g : Gv} {σ : Sg} {t i j k : Nat} {v : Int32} (b : Ad) (h : b ≠ (t, i, j)) : ent g (upI σ t i j k v) b = ent g σ b := by
  have h0 := ad_ne h
  unfold ent
  congr 1
  funext n
  exact if_neg (fun z => h0 ⟨z.1, z.2.1, z.2.2.1⟩)
theorem ent_upL {g : Gv} {σ : Sg} {t i j k : Nat} {v : Int64} (b : Ad) (h : b ≠ (t, i, j)) : ent g (upL σ t i j k v) b = ent g σ b := by
  have h0 := ad_ne h
  unfold ent
  congr 1
  funext n
  exact if_neg (fun z => h0 ⟨z.1, z.2.1, z.2.2.1⟩)
theorem ent_upK {g : Gv} {σ : Sg} {t i j : Nat} {v : Nat} (b : Ad) (h : b ≠ (t, i, j)) : ent g (upK σ t i j v) b = ent g σ b := by
  have h0 := ad_ne h
  unfold ent
  congr 1
  exact if_neg (fun z => h0 z)
theorem ent_roI {g : Gv} {σ : Sg} {t i j : Nat} {f : Nat → Int32} (b : Ad) (h : b ≠ (t, i, j)) : ent g (roI σ t i j f) b = ent g σ b := by
  have h0 := ad_ne h
  unfold ent
  congr 1
  funext n
  exact if_neg (fun z => h0 z)
theorem ent_roL {g : Gv} {σ : Sg} {t i j : Nat} {f : Nat → Int64} (b : Ad) (h : b ≠ (t, i, j)) : ent g (roL σ t i j f) b = ent g σ b := by
  have h0 := ad_ne h
  unfold ent
  congr 1
  funext n
  exact if_neg (fun z => h0 z)
theorem upI_row {σ : Sg} {t i j k : Nat} {v : Int32} : (upI σ t i j k v).1 t i j = upd (σ.1 t i j) k v := by
  funext n
  show (if t = t ∧ i = i ∧ j = j ∧ n = k then v else σ.1 t i j n) = if n = k then v else σ.1 t i j n
  simp
theorem upL_row {σ : Sg} {t i j k : Nat} {v : Int64} : (upL σ t i j k v).2.1 t i j = vp_updL (σ.2.1 t i j) k v := by
  funext n
  show (if t = t ∧ i = i ∧ j = j ∧ n = k then v else σ.2.1 t i j n) = if n = k then v else σ.2.1 t i j n
  simp
theorem roI_row {σ : Sg} {t i j : Nat} {f : Nat → Int32} : (roI σ t i j f).1 t i j = f := by
  funext n
  show (if t = t ∧ i = i ∧ j = j then f n else σ.1 t i j n) = f n
  simp
theorem roL_row {σ : Sg} {t i j : Nat} {f : Nat → Int64} : (roL σ t i j f).2.1 t i j = f := by
  funext n
  show (if t = t ∧ i = i ∧ j = j then f n else σ.2.1 t i j n) = f n
  simp
/-- a step of a walk in the functions: bind -/
theorem bd {α β : Type} {o : Option α} {f : α → Option β} {r : β} (h : o.bind f = some r) : ∃ q, o = some q ∧ f q = some r := by
  cases o with
  | none => cases h
  | some q => exact ⟨q, rfl, h⟩
/-- a loop: body answers go on (inl) or out (inr) -/
def lp {α β : Type} (body : α → Option (α ⊕ β)) : Nat → α → Option β
  | 0, _ => none
  | n + 1, a => match body a with
    | none => none
    | some (.inl a') => lp body n a'
    | some (.inr b) => some b
/-- the walk of a loop: In a the judgement at its head, Out b behind it -/
theorem lp_walk {α β : Type} {body : α → Option (α ⊕ β)} {In : α → Prop} {Out : β → Prop} (hb : ∀ a r, body a = some r → (∀ a', r = .inl a' → In a') → (∀ b, r = .inr b → Out b) → In a) : ∀ (n : Nat) (a : α) (b : β), lp body n a = some b → Out b → In a := by
  intro n
  induction n with
  | zero => intro a b h; cases h
  | succ n ih =>
    intro a b h ho
    unfold lp at h
    cases hr : body a with
    | none => rw [hr] at h; cases h
    | some r =>
      rw [hr] at h
      cases r with
      | inl a' => exact hb a _ hr (fun a2 e => by cases e; exact ih a' b h ho) (fun b2 e => by cases e)
      | inr b' => exact hb a _ hr (fun a2 e => by cases e) (fun b2 e => by cases e; cases h; exact ho)
/-- a boolean answer -/
def bo (r : Int32) : Option Int32 := if r = 0 ∨ r = 1 then some r else none
theorem bo_spec {r q : Int32} (h : bo r = some q) : q = r ∧ narrow .boolean (.int r) = .int r := by
  unfold bo at h
  split at h
  · rename_i hq
    refine ⟨(Option.some.inj h).symm, ?_⟩
    rcases hq with e | e <;> subst e <;> decide
  · cases h
theorem rI {ρ : Option Value × Sg} {r : Int32 × Sg} {v : Int32} {σ : Sg} (hf : some (v, σ) = some r) (hρ : ρ = (some (.int r.1), r.2)) : ρ = (some (.int v), σ) := by cases hf; exact hρ
theorem rL {ρ : Option Value × Sg} {r : Int64 × Sg} {v : Int64} {σ : Sg} (hf : some (v, σ) = some r) (hρ : ρ = (some (.long r.1), r.2)) : ρ = (some (.long v), σ) := by cases hf; exact hρ
theorem rV {ρ : Option Value × Sg} {r : Unit × Sg} {v : Unit} {σ : Sg} (hf : some (v, σ) = some r) (hρ : ρ = (none, r.2)) : ρ = (none, σ) := by cases hf; exact hρ
theorem z_bret {x : Cx} {g : Gv} {cc : ByteArray} {own : String} {nL d pc : Nat} {ρ : Option Value × Sg} {L : List (Nat × Value)} {σ : Sg} {v q : Int32} {r : Int32 × Sg} (hc : Zc x g cc own nL (some .boolean) d) (hd : decode cc pc = .ok (.ireturn, 1)) (hb : bo v = some q) (hf : some (q, σ) = some r) (hρ : ρ = (some (.int r.1), r.2)) : Z x g nL ρ pc L [.int v] σ := by
  obtain ⟨h1, h2⟩ := bo_spec hb
  subst h1
  exact z_zret hc hd h2 (rI hf hρ)
