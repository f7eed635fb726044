/-! THE MAKING of the class and the reference: rows over worlds as lists -/
def strX : List (String × Nat × String × Nat) := [("CarpetRealms", 11, "carpet", 0), ("CarpetRealms", 18, "runner", 1), ("CarpetRealms", 23, "velvet", 2), ("CarpetRealms", 28, "mat", 3), ("CarpetRealms", 33, "stair", 4), ("CarpetRealms", 38, "shag", 5)]
def caS (C : String) (U : State) : Prop := ∃ c3 c4 : ClassId, U.vm.findClass C = some c3 ∧ U.vm.findClass "CarpetRealms$Kind" = some c4 ∧ U.vm.assignable c3 c4 = true
theorem caS.moved {C : String} {u U : State} (hvm : u.vm.Alike U.vm) (h : caS C u) : caS C U := by
  obtain ⟨c3, c4, h1, h2, h3⟩ := h
  exact ⟨c3, c4, by rw [hvm.findClass]; exact h1, by rw [hvm.findClass]; exact h2, by rw [hvm.assignable]; exact h3⟩
def subs : List String := ["CarpetRealms$Runner", "CarpetRealms$Velvet", "CarpetRealms$Mat", "CarpetRealms$Stair", "CarpetRealms$Shag"]
def SrX (g : Gv) (U : State) : Prop := (∀ q ∈ strX, vk_R q.1 q.2.1 q.2.2.1 (g.2.2.2.1 q.2.2.2) U) ∧ va_AO "CarpetRealms$Rug" U ∧ va_AO "CarpetRealms$Sheet" U ∧ va_AO "CarpetRealms$Kind" U ∧ ∀ C ∈ subs, caS C U
def Yc (x : Cx) (A : Nat → Prop) (g : Gv) (cc : ByteArray) (own : String) (nL : Nat) (ret : Option FieldType) (nm : String) (d mc ms : Nat) : Prop := match x with
  | (p, _, _, R, s, m, args, _, meth, c) => p.tables.exec = Jvm.exec ∧ c.code = cc ∧ meth.sig.returnType = ret ∧ c.maxLocals = nL ∧ s.vm.findClass own = some m.cls ∧ (∀ w ∈ TB, w.before args s = true) ∧ meth.locks = false ∧ (d ≤ R.frames ∧ 37 * d ≤ R.locals ∧ mc ≤ R.cells ∧ ms ≤ R.slots) ∧ va_K g.1 classes (tysG g) s ∧ meth.name = nm ∧ SrX g s ∧ ∀ q, s.heap.size ≤ q → A q
def Y (x : Cx) (A : Nat → Prop) (g : Gv) (nL : Nat) (Q : State → Prop) (cl sl : Nat) (pc : Nat) (L : List (Nat × Value)) (st : List Value) (ws : va_W) : Prop := match x with
  | (p, l, e, R, s, m, args, below, meth, c) => ∀ (H : Heap) (locs : List Loc) (ls : Array Slot), va_P g.1 classes ws H → va_D A ws → va_S A s.heap H locs → lv_has ls nL L → W p l e R s m args below meth c H locs cl sl Q (F0 m pc ls st)
def rmC (d mc ms : Nat) : Room := { frames := d, cells := mc, slots := ms, locals := 37 * d }
def PreI (g : Gv) (wc : va_W) (sz : Nat) (U : State) : Prop := U.heap.size = sz ∧ va_P g.1 classes wc U.heap ∧ va_K g.1 classes (tysG g) U ∧ va_D (fun _ => True) wc ∧ SrX g U
def QI {S : Type} (g : Gv) (wc : va_W) (sz : Nat) (w1 : S → va_W) : Array Value → State → Outcome → State → Prop := fun _ st o t => (∃ u : S, o = .returned none ∧ va_P g.1 classes (w1 u) t.heap ∧ va_D (va_A wc sz) (w1 u)) ∧ va_F (va_A wc sz) st t
def OkI {S : Type} (g : Gv) (y : MethodName) (cc : ByteArray) (nL d mc ms : Nat) (av : List Value) (wc : va_W) (w1 : S → va_W) : Prop := ∀ (l : Launch) (sz : Nat), Met l y (.code y cc nL none :: TB) (rmC d mc ms) (va_Pc av (PreI g wc sz)) (QI g wc sz w1) mc ms (va_A wc sz)
theorem PreI.blind {g : Gv} {av : List Value} {wc : va_W} {sz : Nat} : FrameBlind (va_Pc av (PreI g wc sz)) := by
  intro a U f mk h
  obtain ⟨h1, h2, h3, h4, h5, h6⟩ := h
  exact ⟨h1, h2, h3, va_K.moved (u := U) (U := U.calling f mk a) (Vm.Alike.refl U.vm) h4, h5, fun q hq => vk_R.same (u := U) rfl (h6.1 q hq), va_AO.moved (u := U) (U := U.calling f mk a) (Vm.Alike.refl U.vm) h6.2.1, va_AO.moved (u := U) (U := U.calling f mk a) (Vm.Alike.refl U.vm) h6.2.2.1, va_AO.moved (u := U) (U := U.calling f mk a) (Vm.Alike.refl U.vm) h6.2.2.2.1, fun C hC => caS.moved (u := U) (U := U.calling f mk a) (Vm.Alike.refl U.vm) (h6.2.2.2.2 C hC)⟩
/-- a maker's contract out of its walk -/
theorem OkI.of {S : Type} {g : Gv} {y : MethodName} {cc : ByteArray} {nL d mc ms : Nat} {av : List Value} {wc : va_W} {w1 : S → va_W} (L0 : List (Nat × Value)) (hy : plainName y.cls = true) (hn : (lg_sl av).length ≤ nL) (hL : lv_args 0 av = L0)
    (h : ∀ (x : Cx) (A : Nat → Prop) (Q : State → Prop), Yc x A g cc y.cls nL none y.name d mc ms → (match x with | (_, _, _, _, s, _, args, below, _, _) => A = va_A wc s.heap.size ∧ Q = MQ below (QI g wc s.heap.size w1) args s mc ms A) → Y x A g nL Q 0 0 0 L0 [] wc) : OkI g y cc nL d mc ms av wc w1 := by
  intro l sz
  refine Met.ofW (cc := cc) (maxL := nL) (ret := none) hy rfl ?_
  intro p e s m args below meth c s₁ B hml hv
  obtain ⟨rfl, hsz, hP, hK, hD, hR⟩ := hv
  subst hsz
  have hts := atoms_spec (ws := .code y cc nL none :: TB) B.pre
  have hown : s.vm.findClass y.cls = some m.cls := findClass_of_methodNamed B.named
  have hl := lv_entry av (n := nL) hn
  rw [hL] at hl
  rw [lg_entry_eq]
  exact h (p, l, e, (headSpec (.code y cc nL none :: TB) (rmC d mc ms)).room, s, m, av.toArray, below, meth, c) (va_A wc s.heap.size) _ ⟨B.exec, B.bytes, B.returns, hml, hown, fun w hw => hts w (List.mem_cons_of_mem _ hw), B.notSynchronized, ⟨Nat.le_refl _, Nat.le_refl _, Nat.le_refl _, Nat.le_refl _⟩, hK, (name_of_methodNamed B.named B.method).1, hR, fun q hq => Or.inr hq⟩ ⟨rfl, rfl⟩ s.heap [] _ hP hD.self va_S.rf hl
section YROWS
variable {x : Cx} {A : Nat → Prop} {g : Gv} {cc : ByteArray} {own nm : String} {nL d mc ms pc cl sl : Nat} {ret : Option FieldType} {Q : State → Prop} {L L' : List (Nat × Value)} {st : List Value} {ws ws' : va_W}
theorem y_iconst {n : Int} {v : Int32} (hc : Yc x A g cc own nL ret nm d mc ms) (hd : decode cc pc = .ok (.iconst n, 1)) (hv : Int32.ofInt n = v) (k : Y x A g nL Q cl sl (pc + 1) L (.int v :: st) ws) : Y x A g nL Q cl sl pc L st ws := by
  obtain ⟨p, l, e, R, s, m, args, below, meth, c⟩ := x
  intro H locs ls hP hD hS h
  exact lv_iconst hc.1 hc.2.1 hd hv (k H locs ls hP hD hS h)
theorem y_bipush {n : Int} {v : Int32} (hc : Yc x A g cc own nL ret nm d mc ms) (hd : decode cc pc = .ok (.bipush n, 2)) (hv : (Int8.ofInt n).toInt32 = v) (k : Y x A g nL Q cl sl (pc + 2) L (.int v :: st) ws) : Y x A g nL Q cl sl pc L st ws := by
  obtain ⟨p, l, e, R, s, m, args, below, meth, c⟩ := x
  intro H locs ls hP hD hS h
  exact lv_bipush hc.1 hc.2.1 hd hv (k H locs ls hP hD hS h)
theorem y_sipush {n : Int} {v : Int32} (hc : Yc x A g cc own nL ret nm d mc ms) (hd : decode cc pc = .ok (.sipush n, 3)) (hv : (Int16.ofInt n).toInt32 = v) (k : Y x A g nL Q cl sl (pc + 3) L (.int v :: st) ws) : Y x A g nL Q cl sl pc L st ws := by
  obtain ⟨p, l, e, R, s, m, args, below, meth, c⟩ := x
  intro H locs ls hP hD hS h
  exact lv_sipush hc.1 hc.2.1 hd hv (k H locs ls hP hD hS h)
theorem y_null (hc : Yc x A g cc own nL ret nm d mc ms) (hd : decode cc pc = .ok (.aconst_null, 1)) (k : Y x A g nL Q cl sl (pc + 1) L (.null :: st) ws) : Y x A g nL Q cl sl pc L st ws := by
  obtain ⟨p, l, e, R, s, m, args, below, meth, c⟩ := x
  intro H locs ls hP hD hS h
  exact lv_null hc.1 hc.2.1 hd (k H locs ls hP hD hS h)
theorem y_ldcS {tx : String} {idx i : Nat} (hc : Yc x A g cc own nL ret nm d mc ms) (hw : (own, idx, tx, i) ∈ strX) (hd : decode cc pc = .ok (.ldc idx, 2)) (k : Y x A g nL Q cl sl (pc + 2) L (.ref (g.2.2.2.1 i) :: st) ws) : Y x A g nL Q cl sl pc L st ws := by
  obtain ⟨p, l, e, R, s, m, args, below, meth, c⟩ := x
  intro H locs ls hP hD hS h
  exact va_ldcS hc.1 hc.2.1 hc.2.2.2.2.1 (hc.2.2.2.2.2.2.2.2.2.2.1.1 _ hw) hd (k H locs ls hP hD hS h)
theorem y_dup {v : Value} (hc : Yc x A g cc own nL ret nm d mc ms) (hd : decode cc pc = .ok (.dup, 1)) (hv : v.category = 1) (k : Y x A g nL Q cl sl (pc + 1) L (v :: v :: st) ws) : Y x A g nL Q cl sl pc L (v :: st) ws := by
  obtain ⟨p, l, e, R, s, m, args, below, meth, c⟩ := x
  intro H locs ls hP hD hS h
  exact lv_dup hc.1 hc.2.1 hd hv (k H locs ls hP hD hS h)
theorem y_iload_n {n : Fin 4} {v : Int32} (hc : Yc x A g cc own nL ret nm d mc ms) (hd : decode cc pc = .ok (.iload_n n, 1)) (j : Nat) (hL : L[j]? = some ((n : Nat), .int v)) (k : Y x A g nL Q cl sl (pc + 1) L (.int v :: st) ws) : Y x A g nL Q cl sl pc L st ws := by
  obtain ⟨p, l, e, R, s, m, args, below, meth, c⟩ := x
  intro H locs ls hP hD hS h
  exact lv_iload_n hc.1 hc.2.1 hd rfl (lv_at h j hL) (k H locs ls hP hD hS h)
theorem y_iload {i : Nat} {v : Int32} (hc : Yc x A g cc own nL ret nm d mc ms) (hd : decode cc pc = .ok (.iload i, 2)) (j : Nat) (hL : L[j]? = some (i, .int v)) (k : Y x A g nL Q cl sl (pc + 2) L (.int v :: st) ws) : Y x A g nL Q cl sl pc L st ws := by
  obtain ⟨p, l, e, R, s, m, args, below, meth, c⟩ := x
  intro H locs ls hP hD hS h
  exact lv_iload hc.1 hc.2.1 hd (lv_at h j hL) (k H locs ls hP hD hS h)
theorem y_aload_n {n : Fin 4} {v : Nat} (hc : Yc x A g cc own nL ret nm d mc ms) (hd : decode cc pc = .ok (.aload_n n, 1)) (j : Nat) (hL : L[j]? = some ((n : Nat), .ref v)) (k : Y x A g nL Q cl sl (pc + 1) L (.ref v :: st) ws) : Y x A g nL Q cl sl pc L st ws := by
  obtain ⟨p, l, e, R, s, m, args, below, meth, c⟩ := x
  intro H locs ls hP hD hS h
  exact lv_aload_n hc.1 hc.2.1 hd rfl (lv_at h j hL) (k H locs ls hP hD hS h)
theorem y_aload {i : Nat} {v : Nat} (hc : Yc x A g cc own nL ret nm d mc ms) (hd : decode cc pc = .ok (.aload i, 2)) (j : Nat) (hL : L[j]? = some (i, .ref v)) (k : Y x A g nL Q cl sl (pc + 2) L (.ref v :: st) ws) : Y x A g nL Q cl sl pc L st ws := by
  obtain ⟨p, l, e, R, s, m, args, below, meth, c⟩ := x
  intro H locs ls hP hD hS h
  exact lv_aload hc.1 hc.2.1 hd (lv_at h j hL) (k H locs ls hP hD hS h)
theorem y_istore_n {n : Fin 4} {v : Int32} (hc : Yc x A g cc own nL ret nm d mc ms) (hd : decode cc pc = .ok (.istore_n n, 1)) (hn : (n : Nat) < nL) (hL : ((n : Nat), Value.int v) :: L.filter (fun q => !(q.1 == (n : Nat)) && !(q.1 + 1 == (n : Nat) && q.2.category == 2)) = L') (k : Y x A g nL Q cl sl (pc + 1) L' st ws) : Y x A g nL Q cl sl pc L (.int v :: st) ws := by
  obtain ⟨p, l, e, R, s, m, args, below, meth, c⟩ := x
  intro H locs ls hP hD hS h
  exact lv_istore_n hc.1 hc.2.1 hd rfl h hn hL (fun ls h => k H locs ls hP hD hS h)
theorem y_istore {i : Nat} {v : Int32} (hc : Yc x A g cc own nL ret nm d mc ms) (hd : decode cc pc = .ok (.istore i, 2)) (hn : i < nL) (hL : (i, Value.int v) :: L.filter (fun q => !(q.1 == i) && !(q.1 + 1 == i && q.2.category == 2)) = L') (k : Y x A g nL Q cl sl (pc + 2) L' st ws) : Y x A g nL Q cl sl pc L (.int v :: st) ws := by
  obtain ⟨p, l, e, R, s, m, args, below, meth, c⟩ := x
  intro H locs ls hP hD hS h
  exact lv_istore hc.1 hc.2.1 hd h hn hL (fun ls h => k H locs ls hP hD hS h)
theorem y_astore_n {n : Fin 4} {v : Nat} (hc : Yc x A g cc own nL ret nm d mc ms) (hd : decode cc pc = .ok (.astore_n n, 1)) (hn : (n : Nat) < nL) (hL : ((n : Nat), Value.ref v) :: L.filter (fun q => !(q.1 == (n : Nat)) && !(q.1 + 1 == (n : Nat) && q.2.category == 2)) = L') (k : Y x A g nL Q cl sl (pc + 1) L' st ws) : Y x A g nL Q cl sl pc L (.ref v :: st) ws := by
  obtain ⟨p, l, e, R, s, m, args, below, meth, c⟩ := x
  intro H locs ls hP hD hS h
  exact lv_astore_n hc.1 hc.2.1 hd rfl h hn hL (fun ls h => k H locs ls hP hD hS h)
theorem y_astore {i : Nat} {v : Nat} (hc : Yc x A g cc own nL ret nm d mc ms) (hd : decode cc pc = .ok (.astore i, 2)) (hn : i < nL) (hL : (i, Value.ref v) :: L.filter (fun q => !(q.1 == i) && !(q.1 + 1 == i && q.2.category == 2)) = L') (k : Y x A g nL Q cl sl (pc + 2) L' st ws) : Y x A g nL Q cl sl pc L (.ref v :: st) ws := by
  obtain ⟨p, l, e, R, s, m, args, below, meth, c⟩ := x
  intro H locs ls hP hD hS h
  exact lv_astore hc.1 hc.2.1 hd h hn hL (fun ls h => k H locs ls hP hD hS h)
theorem y_iinc {i : Nat} {n : Int} {y v : Int32} (hc : Yc x A g cc own nL ret nm d mc ms) (hd : decode cc pc = .ok (.iinc i n, 3)) (j : Nat) (hj : L[j]? = some (i, .int y)) (hv : y + Int32.ofInt n = v) (hn : i < nL) (hL : (i, Value.int v) :: L.filter (fun q => !(q.1 == i) && !(q.1 + 1 == i && q.2.category == 2)) = L') (k : Y x A g nL Q cl sl (pc + 3) L' st ws) : Y x A g nL Q cl sl pc L st ws := by
  obtain ⟨p, l, e, R, s, m, args, below, meth, c⟩ := x
  intro H locs ls hP hD hS h
  exact lv_iinc hc.1 hc.2.1 hd h hj hv hn hL (fun ls h => k H locs ls hP hD hS h)
theorem y_goto {off : Int} {tgt : Nat} (hc : Yc x A g cc own nL ret nm d mc ms) (hd : decode cc pc = .ok (.goto off, 3)) (ht : (pc : Int) + off = (tgt : Int)) (k : Y x A g nL Q cl sl tgt L st ws) : Y x A g nL Q cl sl pc L st ws := by
  obtain ⟨p, l, e, R, s, m, args, below, meth, c⟩ := x
  intro H locs ls hP hD hS h
  exact lv_goto hc.1 hc.2.1 hd ht (k H locs ls hP hD hS h)
theorem y_ge_no {a b : Int32} {off : Int} (tgt : Nat) (hc : Yc x A g cc own nL ret nm d mc ms) (hd : decode cc pc = .ok (.if_icmp .ge off, 3)) (ht : (pc : Int) + off = (tgt : Int)) (hab : ¬ b ≤ a) (k : Y x A g nL Q cl sl (pc + 3) L st ws) : Y x A g nL Q cl sl pc L (.int b :: .int a :: st) ws := by
  obtain ⟨p, l, e, R, s, m, args, below, meth, c⟩ := x
  intro H locs ls hP hD hS h
  exact lv_icmp_ge hc.1 hc.2.1 hd ht (fun q => absurd q hab) (fun _ => k H locs ls hP hD hS h)
theorem y_ge_yes {a b : Int32} {off : Int} (tgt : Nat) (hc : Yc x A g cc own nL ret nm d mc ms) (hd : decode cc pc = .ok (.if_icmp .ge off, 3)) (ht : (pc : Int) + off = (tgt : Int)) (hab : b ≤ a) (k : Y x A g nL Q cl sl tgt L st ws) : Y x A g nL Q cl sl pc L (.int b :: .int a :: st) ws := by
  obtain ⟨p, l, e, R, s, m, args, below, meth, c⟩ := x
  intro H locs ls hP hD hS h
  exact lv_icmp_ge hc.1 hc.2.1 hd ht (fun _ => k H locs ls hP hD hS h) (fun q => absurd hab q)
theorem y_get {C : String} {T : u_T} {N ci idx a : Nat} {fs : List Value} {v : Value} (hc : Yc x A g cc own nL ret nm d mc ms) (hd : decode cc pc = .ok (.getfield idx, 3)) (hin : ∀ w ∈ u_ws C T N, w ∈ TB) (hcl : classes[ci]? = some (C, T, N)) (f : Nat) (hf : f < N) (hl : Cond.fieldLink own idx (T f).1 (T f).2.1 (T f).2.2.1 ∈ TB) (q0 : Nat) (he : ws[q0]? = some (a, .inr (ci, fs))) (hv : fs[f]? = some v) (k : Y x A g nL Q cl sl (pc + 3) L (v :: st) ws) : Y x A g nL Q cl sl pc L (.ref a :: st) ws := by
  obtain ⟨p, l, e, R, s, m, args, below, meth, c⟩ := x
  intro H locs ls hP hD hS h
  obtain ⟨hx, hb, hr, hml, hown, hts, hlk, hR, hK, hN, hT, hA⟩ := hc
  exact va_get hx hb hts hin hown hK hP q0 he hcl f hf (hts _ hl) (fun _ h9 => h9) hv hd (k H locs ls hP hD hS h)
theorem y_put {C : String} {T : u_T} {N ci idx a : Nat} {fs : List Value} {v : Value} {ty : FieldType} (hc : Yc x A g cc own nL ret nm d mc ms) (hd : decode cc pc = .ok (.putfield idx, 3)) (hin : ∀ w ∈ u_ws C T N, w ∈ TB) (ty0 : Nat → FieldType) (hty : ∀ k, k < N → parseFieldDescriptor (T k).2.2.1 = some (ty0 k)) (hnm : ∀ a, a < N → ∀ b, b < N → a ≠ b → (T a).2.1 ≠ (T b).2.1) (hcl : classes[ci]? = some (C, T, N)) (f : Nat) (hf : f < N) (hl : Cond.fieldLink own idx (T f).1 (T f).2.1 (T f).2.2.1 ∈ TB) (hfin : (T f).2.2.2 = false) (hdt : parseFieldDescriptor (T f).2.2.1 = some ty) (hn : narrow ty v = v) (hfit : fits ty v = true) (q0 : Nat) (he : ws[q0]? = some (a, .inr (ci, fs))) (hlen : f < fs.length) (hw : ws.set q0 (a, .inr (ci, fs.set f v)) = ws') (k : Y x A g nL Q cl sl (pc + 3) L st ws') : Y x A g nL Q cl sl pc L (v :: .ref a :: st) ws := by
  obtain ⟨p, l, e, R, s, m, args, below, meth, c⟩ := x
  intro H locs ls hP hD hS h
  obtain ⟨hx, hb, hr, hml, hown, hts, hlk, hR, hK, hN, hT, hA⟩ := hc
  subst hw
  exact va_put hx hb hts hin ty0 hty hnm hown hK hP hD hS q0 he hcl f hf (hts _ hl) (fun _ h9 => h9) hfin hdt hn hfit hlen hd (fun H1 locs1 hP1 hD1 hS1 => k H1 locs1 ls hP1 hD1 hS1 h)
theorem y_putF {C : String} {T : u_T} {N ci idx a : Nat} {fs : List Value} {v : Value} {ty : FieldType} (hc : Yc x A g cc own nL ret "<init>" d mc ms) (hd : decode cc pc = .ok (.putfield idx, 3)) (hin : ∀ w ∈ u_ws C T N, w ∈ TB) (ty0 : Nat → FieldType) (hty : ∀ k, k < N → parseFieldDescriptor (T k).2.2.1 = some (ty0 k)) (hnm : ∀ a, a < N → ∀ b, b < N → a ≠ b → (T a).2.1 ≠ (T b).2.1) (hcl : classes[ci]? = some (C, T, N)) (f : Nat) (hf : f < N) (hl : Cond.fieldLink own idx (T f).1 (T f).2.1 (T f).2.2.1 ∈ TB) (hfin : (T f).2.2.2 = true) (hdecl : (T f).1 = own) (hdt : parseFieldDescriptor (T f).2.2.1 = some ty) (hn : narrow ty v = v) (hfit : fits ty v = true) (q0 : Nat) (he : ws[q0]? = some (a, .inr (ci, fs))) (hlen : f < fs.length) (hw : ws.set q0 (a, .inr (ci, fs.set f v)) = ws') (k : Y x A g nL Q cl sl (pc + 3) L st ws') : Y x A g nL Q cl sl pc L (v :: .ref a :: st) ws := by
  obtain ⟨p, l, e, R, s, m, args, below, meth, c⟩ := x
  intro H locs ls hP hD hS h
  obtain ⟨hx, hb, hr, hml, hown, hts, hlk, hR, hK, hN, hT, hA⟩ := hc
  subst hw
  exact va_putF hx hb hts hin ty0 hty hnm hown hK hP hD hS q0 he hcl f hf (hts _ hl) (fun _ h9 => h9) hfin hN hdecl hdt hn hfit hlen hd (fun H1 locs1 hP1 hD1 hS1 => k H1 locs1 ls hP1 hD1 hS1 h)
theorem y_ist {i v : Int32} {n j a : Nat} {f : Nat → Int32} (hc : Yc x A g cc own nL ret nm d mc ms) (hd : decode cc pc = .ok (.iastore, 1)) (q0 : Nat) (he : ws[q0]? = some (a, .inl (cInt g, n, .inl f))) (hj : rd i n = some j) (hw : ws.set q0 (a, .inl (cInt g, n, .inl (upd f j v))) = ws') (k : Y x A g nL Q cl sl (pc + 1) L st ws') : Y x A g nL Q cl sl pc L (.int v :: .int i :: .ref a :: st) ws := by
  obtain ⟨p, l, e, R, s, m, args, below, meth, c⟩ := x
  intro H locs ls hP hD hS h
  obtain ⟨hx, hb, hr, hml, hown, hts, hlk, hR, hK, hN, hT, hA⟩ := hc
  subst hw
  refine va_iast hx hb hK hP hD hS q0 0 he rfl (rd_in hj) hd (fun H1 locs1 hP1 hD1 hS1 => ?_)
  rw [rd_eq hj] at hP1 hD1
  exact k H1 locs1 ls hP1 hD1 hS1 h
theorem y_cst {i v : Int32} {n j a : Nat} {f f' : Nat → Int32} (hc : Yc x A g cc own nL ret nm d mc ms) (hd : decode cc pc = .ok (.castore, 1)) (q0 : Nat) (he : ws[q0]? = some (a, .inl (cChar g, n, .inl f))) (hj : rd i n = some j) (hf : upd f j (vp_nar .char v) = f') (hw : ws.set q0 (a, .inl (cChar g, n, .inl f')) = ws') (k : Y x A g nL Q cl sl (pc + 1) L st ws') : Y x A g nL Q cl sl pc L (.int v :: .int i :: .ref a :: st) ws := by
  obtain ⟨p, l, e, R, s, m, args, below, meth, c⟩ := x
  intro H locs ls hP hD hS h
  obtain ⟨hx, hb, hr, hml, hown, hts, hlk, hR, hK, hN, hT, hA⟩ := hc
  subst hw
  subst hf
  refine va_cast hx hb hK hP hD hS q0 2 he rfl (rd_in hj) hd (fun H1 locs1 hP1 hD1 hS1 => ?_)
  rw [rd_eq hj] at hP1 hD1
  exact k H1 locs1 ls hP1 hD1 hS1 h
/-- t the place of the row's class in tysG; qk the place of what is laid into it -/
theorem y_ast {i : Int32} {n j a v ci : Nat} {cA : ClassId} {C : String} {f : Nat → Option Nat} {r : vw_C} {vs : List Value} (hc : Yc x A g cc own nL ret nm d mc ms) (hd : decode cc pc = .ok (.aastore, 1)) (t : Nat) (ht : (tysG g)[t]? = some (cA, .object C)) (q0 : Nat) (he : ws[q0]? = some (a, .inl (cA, n, .inr (.inr (.inr (.inr f)))))) (qk : Nat) (hk : ws[qk]? = some (v, .inr (ci, vs))) (hcl : classes[ci]? = some r) (hcast : r.1 = C ∨ (r.1 ∈ subs ∧ C = "CarpetRealms$Kind")) (hj : rd i n = some j) (hw : ws.set q0 (a, .inl (cA, n, .inr (.inr (.inr (.inr (va_up f j (some v))))))) = ws') (k : Y x A g nL Q cl sl (pc + 1) L st ws') : Y x A g nL Q cl sl pc L (.ref v :: .int i :: .ref a :: st) ws := by
  obtain ⟨p, l, e, R, s, m, args, below, meth, c⟩ := x
  intro H locs ls hP hD hS h
  obtain ⟨hx, hb, hr, hml, hown, hts, hlk, hR, hK, hN, hT, hA⟩ := hc
  subst hw
  have hasg : ∀ comp c0 : ClassId, s.vm.findClass C = some comp → s.vm.findClass r.1 = some c0 → s.vm.assignable c0 comp = true := by
    intro comp c0 h1 h2
    rcases hcast with e1 | e1
    · rw [e1, h1] at h2
      cases h2
      have hat := (hK.1 ci r hcl).2
      have hx1 : g.1.1 ci = comp := by
        have h3 := hat.1
        rw [e1, h1] at h3
        exact (Option.some.inj h3).symm
      rw [hx1] at hat
      exact va_assign hat
    · obtain ⟨c3, c4, w1, w2, w3⟩ := hT.2.2.2.2 _ e1.1
      rw [← e1.2] at w2
      rw [h2] at w1
      rw [h1] at w2
      cases w1
      cases w2
      exact w3
  refine va_astqM hx hb hK hP hD hS q0 t he ht (va_rAny hK hP hk hcl hasg) (rd_in hj) hd (fun H1 locs1 hP1 hD1 hS1 => ?_)
  rw [rd_eq hj] at hP1 hD1
  exact k H1 locs1 ls hP1 hD1 hS1 h
/-- a row that says the same of its places -/
theorem y_same {a : Nat} {y y' : ClassId × vp_A} (q0 : Nat) (he : ws[q0]? = some (a, .inl y)) (hy : vp_cell y.1 y.2 = vp_cell y'.1 y'.2) (hw : ws.set q0 (a, .inl y') = ws') (k : Y x A g nL Q cl sl pc L st ws') : Y x A g nL Q cl sl pc L st ws := by
  obtain ⟨p, l, e, R, s, m, args, below, meth, c⟩ := x
  intro H locs ls hP hD hS h
  subst hw
  refine k H locs ls (hP.set hD he ?_ (fun _ _ => rfl)) (hD.set he) hS h
  have h1 := hP q0 _ he
  show H[a]? = some (vp_cell y'.1 y'.2)
  rw [← hy]
  exact h1
theorem y_new {C : String} {T : u_T} {N ci idx cl' sl' : Nat} {fs : List Value} (hc : Yc x A g cc own nL ret nm d mc ms) (hd : decode cc pc = .ok (.new idx, 3)) (hin : ∀ w ∈ u_ws C T N, w ∈ TB) (ty0 : Nat → FieldType) (hty : ∀ k, k < N → parseFieldDescriptor (T k).2.2.1 = some (ty0 k)) (hcl : classes[ci]? = some (C, T, N)) (h1 : Cond.classLink own idx C ∈ TB) (h2 : Cond.instantiable C N ∈ TB) (h3 : Cond.initialized C ∈ TB) (hfs : ∀ j, j < N → defaultValue (ty0 j) = vp_V fs j) (e1 : cl + 1 = cl') (e2 : sl + N = sl') (b1 : cl' ≤ mc) (b2 : sl' ≤ ms) (k : ∀ q, Y x A g nL Q cl' sl' (pc + 3) L (.ref q :: st) (ws ++ [(q, .inr (ci, fs))])) : Y x A g nL Q cl sl pc L st ws := by
  obtain ⟨p, l, e, R, s, m, args, below, meth, c⟩ := x
  intro H locs ls hP hD hS h
  obtain ⟨hx, hb, hr, hml, hown, hts, hlk, hR, hK, hN, hT, hA⟩ := hc
  subst e1
  subst e2
  exact va_new hx hb hts hin ty0 hty hown (hts _ h1) (hts _ h2) (hts _ h3) hK hP hD hS hA hcl hfs (Nat.le_trans b1 hR.2.2.1) (Nat.le_trans b2 hR.2.2.2) hd (fun q H1 hP1 hD1 hS1 => k q H1 locs ls hP1 hD1 hS1 h)
/-- rows of numbers: t their class's place in tysG -/
theorem y_newa {atype : ArrayType} {ty : FieldType} {cA : ClassId} {n : Int32} {N cl' sl' : Nat} {a0 : vp_A} (hc : Yc x A g cc own nL ret nm d mc ms) (hd : decode cc pc = .ok (.newarray atype, 2)) (harr : Cond.arrayClass (newarray.typeOf atype) ∈ TB) (hty : newarray.typeOf atype = ty) (t : Nat) (ht : (tysG g)[t]? = some (cA, ty)) (hra : ∀ U c9, va_RA U c9 ty → U.vm.findClass ("[" ++ ty.toString) = some c9) (ha : ∀ cA : ClassId, vp_cell cA a0 = arrV cA N (fun _ => defaultValue ty)) (hn : ¬ n < 0) (hN : n.toNatClampNeg = N) (hbytes : N * componentBytes ty ≤ 536870912) (e1 : cl + 1 = cl') (e2 : sl + N = sl') (b1 : cl' ≤ mc) (b2 : sl' ≤ ms) (k : ∀ q, Y x A g nL Q cl' sl' (pc + 2) L (.ref q :: st) (ws ++ [(q, .inl (cA, a0))])) : Y x A g nL Q cl sl pc L (.int n :: st) ws := by
  obtain ⟨p, l, e, R, s, m, args, below, meth, c⟩ := x
  intro H locs ls hP hD hS h
  obtain ⟨hx, hb, hr, hml, hown, hts, hlk, hR, hK, hNm, hT, hA⟩ := hc
  subst e1
  subst e2
  refine va_newa hx hb (hts _ harr) hty hK hP hD hS hA ha hn hN hbytes (Nat.le_trans b1 hR.2.2.1) (Nat.le_trans b2 hR.2.2.2) hd (fun q c9 H1 hK1 hP1 hD1 hS1 => ?_)
  have h8 := hra _ _ (hK.2 t _ ht).2
  have h9 := hra _ _ (hK1.2 (tysG g).length (c9, ty) (by rw [List.getElem?_append_right (Nat.le_refl _), Nat.sub_self]; rfl)).2
  rw [h8] at h9
  cases h9
  exact k q H1 locs ls hP1 hD1 hS1 h
theorem y_newq {C : String} {cA : ClassId} {idx : Nat} {n : Int32} {N cl' sl' : Nat} (hc : Yc x A g cc own nL ret nm d mc ms) (hd : decode cc pc = .ok (.anewarray idx, 3)) (h1 : Cond.classLink own idx C ∈ TB) (h2 : ∀ U, SrX g U → va_AO C U) (t : Nat) (ht : (tysG g)[t]? = some (cA, .object C)) (hn : ¬ n < 0) (hN : n.toNatClampNeg = N) (hbytes : N * 4 ≤ 536870912) (e1 : cl + 1 = cl') (e2 : sl + N = sl') (b1 : cl' ≤ mc) (b2 : sl' ≤ ms) (k : ∀ q, Y x A g nL Q cl' sl' (pc + 3) L (.ref q :: st) (ws ++ [(q, .inl (cA, N, .inr (.inr (.inr (.inr (fun _ => none))))))])) : Y x A g nL Q cl sl pc L (.int n :: st) ws := by
  obtain ⟨p, l, e, R, s, m, args, below, meth, c⟩ := x
  intro H locs ls hP hD hS h
  obtain ⟨hx, hb, hr, hml, hown, hts, hlk, hR, hK, hNm, hT, hA⟩ := hc
  subst e1
  subst e2
  refine va_newq hx hb hown (hts _ h1) (h2 _ hT) hK hP hD hS hA hn hN hbytes (Nat.le_trans b1 hR.2.2.1) (Nat.le_trans b2 hR.2.2.2) hd (fun q c9 H1 hK1 hP1 hD1 hS1 => ?_)
  obtain ⟨k1, k2, k3, k4, k5, h8⟩ := (hK.2 t _ ht).2
  obtain ⟨j1, j2, j3, j4, j5, h9⟩ := (hK1.2 (tysG g).length (c9, .object C) (by rw [List.getElem?_append_right (Nat.le_refl _), Nat.sub_self]; rfl)).2
  rw [h8] at h9
  cases h9
  exact k q H1 locs ls hP1 hD1 hS1 h
theorem y_obj {idx a : Nat} (hc : Yc x A g cc own nL ret nm d mc ms) (hd : decode cc pc = .ok (.invokespecial idx, 3)) (h1 : Cond.methodLink own idx Lib.objectInit ∈ TB) (h2 : Cond.instanceMethod Lib.objectInit ∈ TB) (h3 : Cond.code Lib.objectInit ⟨#[0xb1]⟩ 1 none ∈ TB) (hdd : 1 ≤ d) (hst : (st.map (fun v => v.category)).sum ≤ 8) (k : Y x A g nL Q cl sl (pc + 3) L st ws) : Y x A g nL Q cl sl pc L (.ref a :: st) ws := by
  obtain ⟨p, l, e, R, s, m, args, below, meth, c⟩ := x
  intro H locs ls hP hD hS h
  obtain ⟨hx, hb, hr, hml, hown, hts, hlk, hR, hK, hNm, hT, hA⟩ := hc
  refine W.objInit hx hb hown (hts _ h1) (hts _ h2) (hts _ h3) rfl (by rw [hml]; exact h.1) rfl hd (Nat.le_trans hdd hR.1) ?_ (k H locs ls hP hD hS h)
  have h9 : 2 * (F0 m pc ls (.ref a :: st)).monitorRoom + (st.map (fun v => v.category)).sum + 12 ≤ 20 := by
    show 2 * 0 + (st.map (fun v => v.category)).sum + 12 ≤ 20
    omega
  have := hR.2.1
  omega
def IL (own : String) (idx : Nat) (y : MethodName) (cc : ByteArray) (nL : Nat) (n : Nat) : Prop :=
  Cond.methodLink own idx y ∈ TB ∧ Cond.instanceMethod y ∈ TB ∧ Cond.initialized y.cls ∈ TB ∧ Cond.code y cc nL none ∈ TB ∧ y.cls ≠ "java/lang/invoke/MethodHandle" ∧ y.cls ≠ "java/lang/invoke/VarHandle" ∧ y.name = "<init>" ∧ (parseMethodDescriptor y.desc).map (fun d => d.parameters.length) = some n ∧ nL ≤ 18
theorem y_init {S : Type} {wc wr : va_W} {w1 : S → va_W} {y : MethodName} {cc' : ByteArray} {idx n nL' d' mc' ms' b cl' sl' : Nat} {As st0 : List Value} (hc : Yc x A g cc own nL ret nm d mc ms) (hd : decode cc pc = .ok (.invokespecial idx, 3)) (hv : IL own idx y cc' nL' n) (hdd : d' + 1 ≤ d) (ho : OkI g y cc' nL' d' mc' ms' (.ref b :: As) wc w1) (isC isR : List Nat) (hC : isC.map (fun i => ws[i]?) = wc.map some) (hCn : va_nd isC = true) (hR : isR.map (fun i => ws[i]?) = wr.map some) (hn : va_nd isR = true) (hdis : ∀ i ∈ isR, i ∉ isC) (hAs : As.length = n) (hs0 : st0 = As.reverse ++ .ref b :: st) (hst : (st.map (fun v => v.category)).sum ≤ 8) (e1 : cl + mc' = cl') (e2 : sl + ms' = sl') (b1 : cl' ≤ mc) (b2 : sl' ≤ ms) (k : ∀ u, Y x A g nL Q cl' sl' (pc + 3) L st (wr ++ w1 u)) : Y x A g nL Q cl sl pc L st0 ws := by
  obtain ⟨p, l, e, R, s, m, args, below, meth, c⟩ := x
  intro H locs ls hP hD hS h
  obtain ⟨hx, hb, hr, hml, hown, hts, hlk, hRm, hK, hNm, hT, hA⟩ := hc
  obtain ⟨v1, v2, v3, v4, v5, v6, v7, v8, v9⟩ := hv
  subst e1
  subst e2
  have hPc : va_P g.1 classes wc H := by
    intro k9 q hq
    have h1 : (isC.map (fun i => ws[i]?))[k9]? = some (some q) := by rw [hC, List.getElem?_map, hq]; rfl
    rw [List.getElem?_map] at h1
    cases hi : isC[k9]? with
    | none => rw [hi] at h1; cases h1
    | some i => rw [hi] at h1; exact hP i q (Option.some.inj h1)
  have hDc := hD.sub (ws' := wc) isC hCn hC
  have hFc := va_free (wc := wc) hD hS hA isC hC
  have hcw : (rmC d' mc' ms').frames + 1 ≤ R.frames ∧ 8 + (nL' + 11) + (rmC d' mc' ms').locals ≤ R.locals := by
    refine ⟨Nat.le_trans hdd hRm.1, ?_⟩
    show 8 + (nL' + 11) + 37 * d' ≤ R.locals
    have := hRm.2.1
    omega
  have hrun := va_runI (As := As) (rest := st) (b := b) (cells := cl) (slots := sl) (locs := locs) (l := l) (e := e) (below := below) (meth := meth) (H := H) ⟨hx, hb, hml, hown, hts⟩ (ho l H.size) (cwI n hts (tb_good v4) rfl rfl rfl (hts _ v3) (hts _ v1) (hts _ v2) v7 ⟨v5, v6, v8⟩ hcw) ⟨PreI.blind, fun U hU hW => ⟨rfl, by rw [hU], by rw [hU]; exact hPc, va_K.moved hW.alike hK, hDc.weaken (fun _ _ _ _ => trivial), fun q hq => (hT.1 q hq).warm hW, va_AO.moved hW.alike hT.2.1, va_AO.moved hW.alike hT.2.2.1, va_AO.moved hW.alike hT.2.2.2.1, fun C hC => caS.moved hW.alike (hT.2.2.2.2 C hC)⟩⟩ (g := F0 m pc ls st0) rfl hAs h.1 hs0 (lv_room hst) hd ⟨Nat.le_trans b1 hRm.2.2.1, Nat.le_trans b2 hRm.2.2.2⟩
  intro T hT9 X
  obtain ⟨v, st₀, t, T', L9, h0, X', hL9, f1, f2, ⟨⟨u, hv9, hp, hd9⟩, hz, hk⟩, stp⟩ := hrun T hT9 X
  cases hv9
  rw [h0] at hz hk
  obtain ⟨hP2, hD2⟩ := va_join (wr := wr) (w1 := w1 u) hP hD isC isR hC hR hn hdis hk hFc hp hd9
  obtain ⟨t2, a1, b9⟩ := k u T'.heap (locs ++ L9) ls (by rw [f1]; exact hP2) hD2 ⟨Nat.le_trans hS.1 (by rw [f1]; exact hz), fun q h1 h2 => by rw [f1, hk q (Nat.lt_of_lt_of_le h1 hS.1) (fun z => h2 (hFc q z))]; exact hS.2.1 q h1 h2, fun q hq => by
      rcases List.mem_append.mp hq with h | h
      · exact hS.2.2 q h
      · exact hFc _ (hL9 q h)⟩ h T' rfl X'
  exact ⟨t2, stp t2 a1, b9⟩
theorem y_sub (ks : List Nat) (hl : lv_pick L ks = L') (k : Y x A g nL Q cl sl pc L' st ws) : Y x A g nL Q cl sl pc L st ws := by
  obtain ⟨p, l, e, R, s, m, args, below, meth, c⟩ := x
  intro H locs ls hP hD hS h
  exact k H locs ls hP hD hS (lv_sub h ks hl)
/-- a maker's end -/
theorem y_ret {S : Type} {w1 : S → va_W} {wc : va_W} (hc : Yc x A g cc own nL none nm d mc ms) (hq : match x with | (_, _, _, _, s, _, args, below, _, _) => A = va_A wc s.heap.size ∧ Q = MQ below (QI g wc s.heap.size w1) args s mc ms A) (hd : decode cc pc = .ok (.return_, 1)) (u : S) (is : List Nat) (hn : va_nd is = true) (hs : is.map (fun i => ws[i]?) = (w1 u).map some) (e1 : cl = mc) (e2 : sl = ms) : Y x A g nL Q cl sl pc L [] ws := by
  obtain ⟨p, l, e, R, s, m, args, below, meth, c⟩ := x
  intro H locs ls hP hD hS h
  obtain ⟨hx, hb, hr, hml, hown, hts, hlk, hRm, hK, hNm, hT, hA⟩ := hc
  obtain ⟨hq1, hq2⟩ := hq
  subst e1
  subst e2
  have hP1 : va_P g.1 classes (w1 u) H := by
    intro k9 q hq
    have h1 : (is.map (fun i => ws[i]?))[k9]? = some (some q) := by rw [hs, List.getElem?_map, hq]; rfl
    rw [List.getElem?_map] at h1
    cases hi : is[k9]? with
    | none => rw [hi] at h1; cases h1
    | some i => rw [hi] at h1; exact hP i q (Option.some.inj h1)
  have hD1 := hD.sub (ws' := w1 u) is hn hs
  rw [hq2]
  rw [hq1] at hD1 hS ⊢
  exact W.vret hx hb hr (fun t ht hW => ⟨⟨u, rfl, by rw [ht]; exact hP1, hD1⟩, hS.F ht⟩) hS.2.2 hd hlk
end YROWS
