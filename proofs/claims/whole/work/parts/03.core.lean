/-- numbers as the machine has them -/
def iI (z : Int) : Int32 := Int32.ofInt z
def lI (z : Int) : Int64 := Int64.ofInt z
/-! THE STATE of the class and the reference behind their constructors: a fixed set of cells (dom), their data as numbers -/
abbrev Ad : Type := Nat × Nat × Nat
/-- ints, longs, kinds of rugs; by address and place -/
abbrev Sg : Type := (Nat → Nat → Nat → Nat → Int32) × (Nat → Nat → Nat → Nat → Int64) × (Nat → Nat → Nat → Nat)
/-- class tables; array classes (int, long, char, Rug, Sheet, Kind); where the cells are; where the texts and their bytes are -/
abbrev Gv : Type := va_G × (ClassId × ClassId × ClassId × ClassId × ClassId × ClassId) × (Ad → Nat) × (Nat → Nat) × (Nat → Nat)
abbrev gAd (g : Gv) : Ad → Nat := g.2.2.1
abbrev cInt (g : Gv) : ClassId := g.2.1.1
abbrev cLong (g : Gv) : ClassId := g.2.1.2.1
abbrev cChar (g : Gv) : ClassId := g.2.1.2.2.1
abbrev cRug (g : Gv) : ClassId := g.2.1.2.2.2.1
abbrev cSheet (g : Gv) : ClassId := g.2.1.2.2.2.2.1
abbrev cKind (g : Gv) : ClassId := g.2.1.2.2.2.2.2
abbrev tysG (g : Gv) : List (ClassId × FieldType) := [(cInt g, .int), (cLong g, .long), (cChar g, .char), (cRug g, .object "CarpetRealms$Rug"), (cSheet g, .object "CarpetRealms$Sheet"), (cKind g, .object "CarpetRealms$Kind")]
/-- the class of a kind, by its number -/
def kCi (k : Nat) : Nat := match k with
  | 0 => 0
  | 1 => 3
  | 2 => 8
  | 3 => 1
  | 4 => 6
  | _ => 4
/-- the kind above -/
def kAbove (g : Gv) (k : Nat) : Value := match k with
  | 0 => .null
  | 4 => .ref (gAd g (5, 1, 0))
  | 5 => .ref (gAd g (5, 2, 0))
  | _ => .ref (gAd g (5, 0, 0))
def chs (k : Nat) : List Nat := match k with
  | 0 => [99, 97, 114, 112, 101, 116, 32, 32, 114, 117, 110, 110, 101, 114, 32, 32, 118, 101, 108, 118, 101, 116, 32, 32, 109, 97, 116, 32, 32, 32, 32, 32, 115, 116, 97, 105, 114, 32, 32, 32, 115, 104, 97, 103, 32, 32, 32, 32]
  | 1 => [108, 111, 110, 103, 32, 32, 32, 32, 112, 105, 108, 101, 32, 32, 32, 32, 102, 114, 111, 109, 32, 32, 32, 32]
  | _ => [117, 112, 32, 32, 32, 32, 32, 32, 114, 97, 105, 110, 32, 32, 32, 32, 100, 114, 121, 32, 32, 32, 32, 32]
def chA (k : Nat) : Nat → Int32 := fun j => nI ((chs k).getD j 0)
/-- what a cell holds: a its address, f its ints, u its longs, d its kind -/
def entF (g : Gv) (a : Ad) (f : Nat → Int32) (u : Nat → Int64) (d : Nat) : va_E := match a with
  | (0, _, _) => .inr (10, [.ref (gAd g (10, 0, 0)), .ref (gAd g (1, 0, 0)), .ref (gAd g (1, 1, 0)), .ref (gAd g (1, 2, 0)), .ref (gAd g (2, 3, 0)), .ref (gAd g (4, 0, 0)), .ref (gAd g (16, 0, 0)), .ref (gAd g (18, 0, 0)), .int (f 0)])
  | (1, w, _) => .inr (9, [.ref (gAd g (11, w, 0)), .ref (gAd g (12, w, 0)), .int (f 0), .int (f 1), .int (f 2), .ref (gAd g (13, w, 0)), .ref (gAd g (14, w, 0)), .int (f 3)])
  | (2, _, _) => .inr (2, [.ref (gAd g (5, d, 0)), .int (f 1), .int (f 2), .int (f 3), .int (f 4), .int (f 5), .int (f 6)])
  | (3, s, _) => .inr (5, [.ref (gAd g (17, s, 0)), .int (f 0), .int (f 1)])
  | (4, _, _) => .inr (7, [.ref (gAd g (15, 0, 0)), .int (f 0), .int (f 1), .int (f 2), .int (f 3), .int (f 4)])
  | (5, k, _) => .inr (kCi k, [.int (nI k), .ref (g.2.2.2.1 k), kAbove g k])
  | (6, _, _) => .inr (11, [.ref (gAd g (20, 0, 0)), .ref (gAd g (21, 0, 0)), .ref (gAd g (22, 0, 0)), .int (f 0), .ref (gAd g (23, 0, 0)), .ref (gAd g (24, 0, 0)), .int (f 1), .int (f 2), .int (f 3), .int (f 4), .long (u 0), .ref (gAd g (25, 0, 0)), .ref (gAd g (25, 1, 0)), .ref (gAd g (25, 2, 0)), .ref (gAd g (28, 0, 0)), .ref (gAd g (29, 0, 0)), .ref (gAd g (30, 0, 0)), .ref (gAd g (31, 0, 0))])
  | (10, _, _) => .inl (cKind g, 6, .inr (.inr (.inr (.inr (fun k => some (gAd g (5, k, 0)))))))
  | (11, w, _) => .inl (cRug g, 8, .inr (.inr (.inr (.inr (fun c => some (gAd g (2, w, c)))))))
  | (12, _, _) => .inl (cInt g, 7, .inl f)
  | (13, _, _) => .inl (cInt g, 8, .inl f)
  | (14, _, _) => .inl (cLong g, 8, .inr (.inl u))
  | (15, _, _) => .inl (cInt g, 120, .inl f)
  | (16, _, _) => .inl (cSheet g, 4, .inr (.inr (.inr (.inr (fun s => some (gAd g (3, s, 0)))))))
  | (17, _, _) => .inl (cLong g, 40, .inr (.inl u))
  | (18, _, _) => .inl (cInt g, 7, .inl f)
  | (20, _, _) => .inl (cInt g, 66, .inl f)
  | (21, _, _) => .inl (cInt g, 66, .inl f)
  | (22, _, _) => .inl (cInt g, 66, .inl f)
  | (23, _, _) => .inl (cInt g, 7, .inl f)
  | (24, _, _) => .inl (cInt g, 120, .inl f)
  | (25, k, _) => .inl (cChar g, (chs k).length, .inl (chA k))
  | (28, _, _) => .inl (cInt g, 4, .inl f)
  | (29, _, _) => .inl (cInt g, 4, .inl f)
  | (30, _, _) => .inl (cLong g, 160, .inr (.inl u))
  | _ => .inl (cLong g, 40, .inr (.inl u))
def ent (g : Gv) (σ : Sg) (a : Ad) : va_E := entF g a (σ.1 a.1 a.2.1 a.2.2) (σ.2.1 a.1 a.2.1 a.2.2) (σ.2.2 a.1 a.2.1 a.2.2)
/-- the cells that there are: the class's, the reference's -/
def domW (w : Nat) : List Ad := [(1, w, 0), (11, w, 0), (12, w, 0), (13, w, 0), (14, w, 0), (2, w, 0), (2, w, 1), (2, w, 2), (2, w, 3), (2, w, 4), (2, w, 5), (2, w, 6), (2, w, 7)]
def domX : List Ad := [(0, 0, 0), (5, 0, 0), (5, 1, 0), (5, 2, 0), (5, 3, 0), (5, 4, 0), (5, 5, 0), (10, 0, 0)] ++ (domW 0 ++ (domW 1 ++ (domW 2 ++ [(2, 3, 0), (4, 0, 0), (15, 0, 0), (16, 0, 0), (3, 0, 0), (3, 1, 0), (3, 2, 0), (3, 3, 0), (17, 0, 0), (17, 1, 0), (17, 2, 0), (17, 3, 0), (18, 0, 0)])))
def domM : List Ad := [(6, 0, 0), (20, 0, 0), (21, 0, 0), (22, 0, 0), (23, 0, 0), (24, 0, 0), (25, 0, 0), (25, 1, 0), (25, 2, 0), (28, 0, 0), (29, 0, 0), (30, 0, 0), (31, 0, 0)]
def dom : List Ad := domX ++ domM
theorem dom_nd : dom.Nodup := by decide +kernel
def W0 (g : Gv) (σ : Sg) : va_W := dom.map (fun a => (gAd g a, ent g σ a))
theorem W0_at {g : Gv} {σ : Sg} {q : Nat} {a : Ad} (h : dom[q]? = some a) : (W0 g σ)[q]? = some (gAd g a, ent g σ a) := by
  unfold W0
  rw [List.getElem?_map, h]
  rfl
theorem W0_in {g : Gv} {σ : Sg} {q : Nat} {x : Nat × va_E} (h : (W0 g σ)[q]? = some x) : ∃ a, dom[q]? = some a ∧ x = (gAd g a, ent g σ a) := by
  unfold W0 at h
  rw [List.getElem?_map] at h
  cases hd : dom[q]? with
  | none => rw [hd] at h; cases h
  | some a => rw [hd] at h; exact ⟨a, rfl, (Option.some.inj h).symm⟩
theorem W0_set {g : Gv} {σ σ' : Sg} {q : Nat} {a : Ad} {e : va_E} (h : dom[q]? = some a) (he : ent g σ' a = e) (ho : ∀ b : Ad, b ≠ a → ent g σ' b = ent g σ b) : (W0 g σ).set q (gAd g a, e) = W0 g σ' := by
  apply List.ext_getElem?
  intro k
  by_cases hk : k = q
  · subst hk
    have hl : k < (W0 g σ).length := (List.getElem?_eq_some_iff.mp (W0_at (g := g) (σ := σ) h)).1
    rw [List.getElem?_set_self hl, W0_at h, he]
  · rw [List.getElem?_set_ne (Ne.symm hk)]
    unfold W0
    rw [List.getElem?_map, List.getElem?_map]
    cases hd : dom[k]? with
    | none => rfl
    | some b =>
      have hb : b ≠ a := by
        intro e
        subst e
        obtain ⟨l1, e1⟩ := List.getElem?_eq_some_iff.mp hd
        obtain ⟨l2, e2⟩ := List.getElem?_eq_some_iff.mp h
        exact hk ((List.getElem_inj dom_nd).mp (e1.trans e2.symm))
      show some (gAd g b, ent g σ b) = some (gAd g b, ent g σ' b)
      rw [ho b hb]
/-- the cells are apart -/
def Inj (g : Gv) : Prop := ∀ a ∈ dom, ∀ b ∈ dom, gAd g a = gAd g b → a = b
def AsG (g : Gv) (sz : Nat) : Nat → Prop := fun q => (∃ a, a ∈ dom ∧ gAd g a = q) ∨ sz ≤ q
theorem W0_D {g : Gv} (hi : Inj g) (σ : Sg) (sz : Nat) : va_D (AsG g sz) (W0 g σ) := by
  refine ⟨fun i j p q hp hq e => ?_, fun k q hk => ?_⟩
  · obtain ⟨a, ha, rfl⟩ := W0_in hp
    obtain ⟨b, hb, rfl⟩ := W0_in hq
    have hab := hi a (List.mem_of_getElem? ha) b (List.mem_of_getElem? hb) e
    subst hab
    obtain ⟨l1, e1⟩ := List.getElem?_eq_some_iff.mp ha
    obtain ⟨l2, e2⟩ := List.getElem?_eq_some_iff.mp hb
    exact (List.getElem_inj dom_nd).mp (e1.trans e2.symm)
  · obtain ⟨a, ha, rfl⟩ := W0_in hk
    exact Or.inl ⟨a, List.mem_of_getElem? ha, rfl⟩
/-- the texts -/
def lenK : List Nat := [6, 6, 6, 3, 5, 4, 2, 4, 3, 4, 4, 4]
def bytK : List (List Int32) := [[99, 97, 114, 112, 101, 116], [114, 117, 110, 110, 101, 114], [118, 101, 108, 118, 101, 116], [109, 97, 116], [115, 116, 97, 105, 114], [115, 104, 97, 103], [117, 112], [114, 97, 105, 110], [100, 114, 121], [108, 111, 110, 103], [112, 105, 108, 101], [102, 114, 111, 109]]
def Ex (g : Gv) (A : Nat → Prop) (U : State) (H : Heap) : Prop :=
  vk_S 12 lenK bytK g.2.2.2.1 g.2.2.2.2 A U H ∧ va_Z "java/lang/String" "COMPACT_STRINGS" "Z" (.int 1) A U H ∧ va_Zq "jdk/internal/util/Preconditions" "SIOOBE_FORMATTER" "Ljava/util/function/BiFunction;" A U H
theorem Ex.moved {g : Gv} {A : Nat → Prop} {u U : State} {H : Heap} (hvm : u.vm.Alike U.vm) (h : Ex g A u H) : Ex g A U H := ⟨h.1.moved hvm, h.2.1.moved hvm, h.2.2.moved hvm⟩
theorem Ex.kept {g : Gv} {A : Nat → Prop} {U : State} {H H1 : Heap} (h : Ex g A U H) (hq : ∀ a : Nat, a < H.size → ¬ A a → H1[a]? = H[a]?) : Ex g A U H1 := ⟨h.1.kept hq, h.2.1.kept hq, h.2.2.kept hq⟩
theorem Ex.narrow {g : Gv} {A B : Nat → Prop} {U : State} {H : Heap} (h : Ex g A U H) (hAB : ∀ q, B q → A q) : Ex g B U H := ⟨h.1.narrow hAB, h.2.1.narrow hAB, h.2.2.narrow hAB⟩
def rmD (d : Nat) : Room := { frames := d, cells := 0, slots := 0, locals := 37 * d }
/-- which constant of the pool is which text -/
def strs : List (String × Nat × String × Nat) := [("CarpetRealms$PalaceReader", 30, "up", 6), ("CarpetRealms$PalaceReader", 40, "rain", 7), ("CarpetRealms$PalaceReader", 46, "dry", 8), ("CarpetRealms$PalaceReader", 96, "long", 9), ("CarpetRealms$PalaceReader", 101, "pile", 10), ("CarpetRealms$PalaceReader", 105, "from", 11)]
def Sr (g : Gv) (U : State) : Prop := ∀ q ∈ strs, vk_R q.1 q.2.1 q.2.2.1 (g.2.2.2.1 q.2.2.2) U
/-- a method's start, its end, its contract -/
def Pre (g : Gv) (σ : Sg) (sz : Nat) (U : State) : Prop := U.heap.size = sz ∧ va_P g.1 classes (W0 g σ) U.heap ∧ va_K g.1 classes (tysG g) U ∧ Inj g ∧ Ex g (AsG g sz) U U.heap ∧ Sr g U
def Qz (g : Gv) (ρ : Option Value × Sg) (sz : Nat) : Array Value → State → Outcome → State → Prop := fun _ st o t => o = .returned ρ.1 ∧ va_P g.1 classes (W0 g ρ.2) t.heap ∧ va_F (AsG g sz) st t
def Ok (g : Gv) (y : MethodName) (cc : ByteArray) (nL : Nat) (ret : Option FieldType) (d : Nat) (av : List Value) (σ : Sg) (ρ : Option Value × Sg) : Prop :=
  ∀ (l : Launch) (sz : Nat), Met l y (.code y cc nL ret :: TB) (rmD d) (va_Pc av (Pre g σ sz)) (Qz g ρ sz) 0 0 (AsG g sz)
theorem Pre.blind {g : Gv} {av : List Value} {σ : Sg} {sz : Nat} : FrameBlind (va_Pc av (Pre g σ sz)) := by
  intro a U f mk h
  obtain ⟨h1, h2, h3, h4, h5, h6, h7⟩ := h
  exact ⟨h1, h2, h3, va_K.moved (u := U) (U := U.calling f mk a) (Vm.Alike.refl U.vm) h4, h5, Ex.moved (u := U) (U := U.calling f mk a) (Vm.Alike.refl U.vm) h6, fun q hq => vk_R.same (u := U) rfl (h7 q hq)⟩
/-- the machine in a method: program, launch, env, room, state at entry, method, arguments, frames below, method, code -/
abbrev Cx : Type := Program × Launch × Env × Room × State × MethodId × Array Value × List Frame × Method × Code
def Zc (x : Cx) (g : Gv) (cc : ByteArray) (own : String) (nL : Nat) (ret : Option FieldType) (d : Nat) : Prop := match x with
  | (p, _, _, R, s, m, args, _, meth, c) => p.tables.exec = Jvm.exec ∧ c.code = cc ∧ meth.sig.returnType = ret ∧ c.maxLocals = nL ∧ s.vm.findClass own = some m.cls ∧ (∀ w ∈ TB, w.before args s = true) ∧ meth.locks = false ∧ R = rmD d ∧ va_K g.1 classes (tysG g) s ∧ Inj g ∧ Ex g (AsG g s.heap.size) s s.heap ∧ Sr g s
def Z (x : Cx) (g : Gv) (nL : Nat) (ρ : Option Value × Sg) (pc : Nat) (L : List (Nat × Value)) (st : List Value) (σ : Sg) : Prop := match x with
  | (p, l, e, R, s, m, args, below, meth, c) => ∀ (H : Heap) (locs : List Loc) (ls : Array Slot), va_P g.1 classes (W0 g σ) H → va_S (AsG g s.heap.size) s.heap H locs → lv_has ls nL L →
      W p l e R s m args below meth c H locs 0 0 (MQ below (Qz g ρ s.heap.size) args s 0 0 (AsG g s.heap.size)) (F0 m pc ls st)
theorem AsG.mono {g : Gv} {a b : Nat} (h : a ≤ b) {q : Nat} (k : AsG g b q) : AsG g a q := k.elim Or.inl (fun z => Or.inr (Nat.le_trans h z))
/-- a contract out of its walk -/
theorem Ok.of {g : Gv} {y : MethodName} {cc : ByteArray} {nL : Nat} {ret : Option FieldType} {d : Nat} {av : List Value} {σ : Sg} {ρ : Option Value × Sg} (L0 : List (Nat × Value)) (hy : plainName y.cls = true) (hn : (lg_sl av).length ≤ nL) (hL : lv_args 0 av = L0)
    (h : ∀ x : Cx, Zc x g cc y.cls nL ret d → Z x g nL ρ 0 L0 [] σ) : Ok g y cc nL ret d av σ ρ := by
  intro l sz
  refine Met.ofW (cc := cc) (maxL := nL) (ret := ret) hy rfl ?_
  intro p e s m args below meth c s₁ B hml hv
  obtain ⟨rfl, hsz, hP, hK, hI, hE, hR⟩ := hv
  subst hsz
  have hts := atoms_spec (ws := .code y cc nL ret :: TB) B.pre
  have hown : s.vm.findClass y.cls = some m.cls := findClass_of_methodNamed B.named
  have hl := lv_entry av (n := nL) hn
  rw [hL] at hl
  rw [lg_entry_eq]
  exact h (p, l, e, (headSpec (.code y cc nL ret :: TB) (rmD d)).room, s, m, av.toArray, below, meth, c) ⟨B.exec, B.bytes, B.returns, hml, hown, fun w hw => hts w (List.mem_cons_of_mem _ hw), B.notSynchronized, rfl, hK, hI, hE, hR⟩ s.heap [] _ hP va_S.rf hl
section ROWS
variable {x : Cx} {g : Gv} {cc : ByteArray} {own : String} {nL d pc : Nat} {ret : Option FieldType} {ρ : Option Value × Sg} {L L' : List (Nat × Value)} {st : List Value} {σ : Sg}
theorem z_sub (ks : List Nat) (hl : lv_pick L ks = L') (k : Z x g nL ρ pc L' st σ) : Z x g nL ρ pc L st σ := by
  obtain ⟨p, l, e, R, s, m, args, below, meth, c⟩ := x
  intro H locs ls hP hS h
  exact k H locs ls hP hS (lv_sub h ks hl)
theorem z_iconst {n : Int} {v : Int32} (hc : Zc x g cc own nL ret d) (hd : decode cc pc = .ok (.iconst n, 1)) (hv : Int32.ofInt n = v) (k : Z x g nL ρ (pc + 1) L (.int v :: st) σ) : Z x g nL ρ pc L st σ := by
  obtain ⟨p, l, e, R, s, m, args, below, meth, c⟩ := x
  intro H locs ls hP hS h
  exact lv_iconst hc.1 hc.2.1 hd hv (k H locs ls hP hS h)
theorem z_bipush {n : Int} {v : Int32} (hc : Zc x g cc own nL ret d) (hd : decode cc pc = .ok (.bipush n, 2)) (hv : (Int8.ofInt n).toInt32 = v) (k : Z x g nL ρ (pc + 2) L (.int v :: st) σ) : Z x g nL ρ pc L st σ := by
  obtain ⟨p, l, e, R, s, m, args, below, meth, c⟩ := x
  intro H locs ls hP hS h
  exact lv_bipush hc.1 hc.2.1 hd hv (k H locs ls hP hS h)
theorem z_sipush {n : Int} {v : Int32} (hc : Zc x g cc own nL ret d) (hd : decode cc pc = .ok (.sipush n, 3)) (hv : (Int16.ofInt n).toInt32 = v) (k : Z x g nL ρ (pc + 3) L (.int v :: st) σ) : Z x g nL ρ pc L st σ := by
  obtain ⟨p, l, e, R, s, m, args, below, meth, c⟩ := x
  intro H locs ls hP hS h
  exact lv_sipush hc.1 hc.2.1 hd hv (k H locs ls hP hS h)
theorem z_lconst {n : Fin 2} {v : Int64} (hc : Zc x g cc own nL ret d) (hd : decode cc pc = .ok (.lconst n, 1)) (hv : Int64.ofNat (n : Nat) = v) (k : Z x g nL ρ (pc + 1) L (.long v :: st) σ) : Z x g nL ρ pc L st σ := by
  obtain ⟨p, l, e, R, s, m, args, below, meth, c⟩ := x
  intro H locs ls hP hS h
  exact lv_lconst hc.1 hc.2.1 hd hv (k H locs ls hP hS h)
theorem z_ldc {v : Int32} {idx : Nat} (hc : Zc x g cc own nL ret d) (hw : Cond.constant own idx v ∈ TB) (hd : decode cc pc = .ok (.ldc idx, 2)) (k : Z x g nL ρ (pc + 2) L (.int v :: st) σ) : Z x g nL ρ pc L st σ := by
  obtain ⟨p, l, e, R, s, m, args, below, meth, c⟩ := x
  intro H locs ls hP hS h
  exact lv_ldc hc.1 hc.2.1 hc.2.2.2.2.1 (hc.2.2.2.2.2.1 _ hw) hd (k H locs ls hP hS h)
theorem z_ldcw {v : Int32} {idx : Nat} (hc : Zc x g cc own nL ret d) (hw : Cond.constant own idx v ∈ TB) (hd : decode cc pc = .ok (.ldc_w idx, 3)) (k : Z x g nL ρ (pc + 3) L (.int v :: st) σ) : Z x g nL ρ pc L st σ := by
  obtain ⟨p, l, e, R, s, m, args, below, meth, c⟩ := x
  intro H locs ls hP hS h
  exact lv_ldcw hc.1 hc.2.1 hc.2.2.2.2.1 (hc.2.2.2.2.2.1 _ hw) hd (k H locs ls hP hS h)
theorem z_ldc2 {v : Int64} {idx : Nat} (hc : Zc x g cc own nL ret d) (hw : Cond.constantLong own idx v ∈ TB) (hd : decode cc pc = .ok (.ldc2_w idx, 3)) (k : Z x g nL ρ (pc + 3) L (.long v :: st) σ) : Z x g nL ρ pc L st σ := by
  obtain ⟨p, l, e, R, s, m, args, below, meth, c⟩ := x
  intro H locs ls hP hS h
  exact lv_ldc2 hc.1 hc.2.1 hc.2.2.2.2.1 (hc.2.2.2.2.2.1 _ hw) hd (k H locs ls hP hS h)
theorem z_ldcS {tx : String} {idx i : Nat} (hc : Zc x g cc own nL ret d) (hw : (own, idx, tx, i) ∈ strs) (hd : decode cc pc = .ok (.ldc idx, 2)) (k : Z x g nL ρ (pc + 2) L (.ref (g.2.2.2.1 i) :: st) σ) : Z x g nL ρ pc L st σ := by
  obtain ⟨p, l, e, R, s, m, args, below, meth, c⟩ := x
  intro H locs ls hP hS h
  exact va_ldcS hc.1 hc.2.1 hc.2.2.2.2.1 (hc.2.2.2.2.2.2.2.2.2.2.2 _ hw) hd (k H locs ls hP hS h)
theorem z_iload_n {n : Fin 4} {v : Int32} (hc : Zc x g cc own nL ret d) (hd : decode cc pc = .ok (.iload_n n, 1)) (j : Nat) (hL : L[j]? = some ((n : Nat), .int v)) (k : Z x g nL ρ (pc + 1) L (.int v :: st) σ) : Z x g nL ρ pc L st σ := by
  obtain ⟨p, l, e, R, s, m, args, below, meth, c⟩ := x
  intro H locs ls hP hS h
  exact lv_iload_n hc.1 hc.2.1 hd rfl (lv_at h j hL) (k H locs ls hP hS h)
theorem z_iload {i : Nat} {v : Int32} (hc : Zc x g cc own nL ret d) (hd : decode cc pc = .ok (.iload i, 2)) (j : Nat) (hL : L[j]? = some (i, .int v)) (k : Z x g nL ρ (pc + 2) L (.int v :: st) σ) : Z x g nL ρ pc L st σ := by
  obtain ⟨p, l, e, R, s, m, args, below, meth, c⟩ := x
  intro H locs ls hP hS h
  exact lv_iload hc.1 hc.2.1 hd (lv_at h j hL) (k H locs ls hP hS h)
theorem z_lload_n {n : Fin 4} {v : Int64} (hc : Zc x g cc own nL ret d) (hd : decode cc pc = .ok (.lload_n n, 1)) (j : Nat) (hL : L[j]? = some ((n : Nat), .long v)) (k : Z x g nL ρ (pc + 1) L (.long v :: st) σ) : Z x g nL ρ pc L st σ := by
  obtain ⟨p, l, e, R, s, m, args, below, meth, c⟩ := x
  intro H locs ls hP hS h
  exact lv_lload_n hc.1 hc.2.1 hd rfl (lv_at h j hL) (k H locs ls hP hS h)
theorem z_lload {i : Nat} {v : Int64} (hc : Zc x g cc own nL ret d) (hd : decode cc pc = .ok (.lload i, 2)) (j : Nat) (hL : L[j]? = some (i, .long v)) (k : Z x g nL ρ (pc + 2) L (.long v :: st) σ) : Z x g nL ρ pc L st σ := by
  obtain ⟨p, l, e, R, s, m, args, below, meth, c⟩ := x
  intro H locs ls hP hS h
  exact lv_lload hc.1 hc.2.1 hd (lv_at h j hL) (k H locs ls hP hS h)
theorem z_aload_n {n : Fin 4} {v : Nat} (hc : Zc x g cc own nL ret d) (hd : decode cc pc = .ok (.aload_n n, 1)) (j : Nat) (hL : L[j]? = some ((n : Nat), .ref v)) (k : Z x g nL ρ (pc + 1) L (.ref v :: st) σ) : Z x g nL ρ pc L st σ := by
  obtain ⟨p, l, e, R, s, m, args, below, meth, c⟩ := x
  intro H locs ls hP hS h
  exact lv_aload_n hc.1 hc.2.1 hd rfl (lv_at h j hL) (k H locs ls hP hS h)
theorem z_aload {i : Nat} {v : Nat} (hc : Zc x g cc own nL ret d) (hd : decode cc pc = .ok (.aload i, 2)) (j : Nat) (hL : L[j]? = some (i, .ref v)) (k : Z x g nL ρ (pc + 2) L (.ref v :: st) σ) : Z x g nL ρ pc L st σ := by
  obtain ⟨p, l, e, R, s, m, args, below, meth, c⟩ := x
  intro H locs ls hP hS h
  exact lv_aload hc.1 hc.2.1 hd (lv_at h j hL) (k H locs ls hP hS h)
theorem z_istore_n {n : Fin 4} {v : Int32} (hc : Zc x g cc own nL ret d) (hd : decode cc pc = .ok (.istore_n n, 1)) (hn : (n : Nat) < nL) (hL : ((n : Nat), Value.int v) :: L.filter (fun q => !(q.1 == (n : Nat)) && !(q.1 + 1 == (n : Nat) && q.2.category == 2)) = L') (k : Z x g nL ρ (pc + 1) L' st σ) : Z x g nL ρ pc L (.int v :: st) σ := by
  obtain ⟨p, l, e, R, s, m, args, below, meth, c⟩ := x
  intro H locs ls hP hS h
  exact lv_istore_n hc.1 hc.2.1 hd rfl h hn hL (fun ls h => k H locs ls hP hS h)
theorem z_istore {i : Nat} {v : Int32} (hc : Zc x g cc own nL ret d) (hd : decode cc pc = .ok (.istore i, 2)) (hn : i < nL) (hL : (i, Value.int v) :: L.filter (fun q => !(q.1 == i) && !(q.1 + 1 == i && q.2.category == 2)) = L') (k : Z x g nL ρ (pc + 2) L' st σ) : Z x g nL ρ pc L (.int v :: st) σ := by
  obtain ⟨p, l, e, R, s, m, args, below, meth, c⟩ := x
  intro H locs ls hP hS h
  exact lv_istore hc.1 hc.2.1 hd h hn hL (fun ls h => k H locs ls hP hS h)
theorem z_lstore_n {n : Fin 4} {v : Int64} (hc : Zc x g cc own nL ret d) (hd : decode cc pc = .ok (.lstore_n n, 1)) (hn : (n : Nat) + 1 < nL) (hL : ((n : Nat), Value.long v) :: L.filter (fun q => !(q.1 == (n : Nat)) && (!(q.1 == (n : Nat) + 1) && !(q.1 + 1 == (n : Nat) && q.2.category == 2))) = L') (k : Z x g nL ρ (pc + 1) L' st σ) : Z x g nL ρ pc L (.long v :: st) σ := by
  obtain ⟨p, l, e, R, s, m, args, below, meth, c⟩ := x
  intro H locs ls hP hS h
  exact lv_lstore_n hc.1 hc.2.1 hd rfl h hn hL (fun ls h => k H locs ls hP hS h)
theorem z_lstore {i : Nat} {v : Int64} (hc : Zc x g cc own nL ret d) (hd : decode cc pc = .ok (.lstore i, 2)) (hn : i + 1 < nL) (hL : (i, Value.long v) :: L.filter (fun q => !(q.1 == i) && (!(q.1 == i + 1) && !(q.1 + 1 == i && q.2.category == 2))) = L') (k : Z x g nL ρ (pc + 2) L' st σ) : Z x g nL ρ pc L (.long v :: st) σ := by
  obtain ⟨p, l, e, R, s, m, args, below, meth, c⟩ := x
  intro H locs ls hP hS h
  exact lv_lstore hc.1 hc.2.1 hd h hn hL (fun ls h => k H locs ls hP hS h)
theorem z_astore_n {n : Fin 4} {v : Nat} (hc : Zc x g cc own nL ret d) (hd : decode cc pc = .ok (.astore_n n, 1)) (hn : (n : Nat) < nL) (hL : ((n : Nat), Value.ref v) :: L.filter (fun q => !(q.1 == (n : Nat)) && !(q.1 + 1 == (n : Nat) && q.2.category == 2)) = L') (k : Z x g nL ρ (pc + 1) L' st σ) : Z x g nL ρ pc L (.ref v :: st) σ := by
  obtain ⟨p, l, e, R, s, m, args, below, meth, c⟩ := x
  intro H locs ls hP hS h
  exact lv_astore_n hc.1 hc.2.1 hd rfl h hn hL (fun ls h => k H locs ls hP hS h)
theorem z_astore {i : Nat} {v : Nat} (hc : Zc x g cc own nL ret d) (hd : decode cc pc = .ok (.astore i, 2)) (hn : i < nL) (hL : (i, Value.ref v) :: L.filter (fun q => !(q.1 == i) && !(q.1 + 1 == i && q.2.category == 2)) = L') (k : Z x g nL ρ (pc + 2) L' st σ) : Z x g nL ρ pc L (.ref v :: st) σ := by
  obtain ⟨p, l, e, R, s, m, args, below, meth, c⟩ := x
  intro H locs ls hP hS h
  exact lv_astore hc.1 hc.2.1 hd h hn hL (fun ls h => k H locs ls hP hS h)
theorem z_iinc {i : Nat} {n : Int} {y v : Int32} (hc : Zc x g cc own nL ret d) (hd : decode cc pc = .ok (.iinc i n, 3)) (j : Nat) (hj : L[j]? = some (i, .int y)) (hv : y + Int32.ofInt n = v) (hn : i < nL) (hL : (i, Value.int v) :: L.filter (fun q => !(q.1 == i) && !(q.1 + 1 == i && q.2.category == 2)) = L') (k : Z x g nL ρ (pc + 3) L' st σ) : Z x g nL ρ pc L st σ := by
  obtain ⟨p, l, e, R, s, m, args, below, meth, c⟩ := x
  intro H locs ls hP hS h
  exact lv_iinc hc.1 hc.2.1 hd h hj hv hn hL (fun ls h => k H locs ls hP hS h)
theorem z_iadd {a b : Int32} (hc : Zc x g cc own nL ret d) (hd : decode cc pc = .ok (.iadd, 1)) (k : Z x g nL ρ (pc + 1) L (.int (a + b) :: st) σ) : Z x g nL ρ pc L (.int b :: .int a :: st) σ := by
  obtain ⟨p, l, e, R, s, m, args, below, meth, c⟩ := x
  intro H locs ls hP hS h
  exact lv_iadd hc.1 hc.2.1 hd (k H locs ls hP hS h)
theorem z_isub {a b : Int32} (hc : Zc x g cc own nL ret d) (hd : decode cc pc = .ok (.isub, 1)) (k : Z x g nL ρ (pc + 1) L (.int (a - b) :: st) σ) : Z x g nL ρ pc L (.int b :: .int a :: st) σ := by
  obtain ⟨p, l, e, R, s, m, args, below, meth, c⟩ := x
  intro H locs ls hP hS h
  exact lv_isub hc.1 hc.2.1 hd (k H locs ls hP hS h)
theorem z_imul {a b : Int32} (hc : Zc x g cc own nL ret d) (hd : decode cc pc = .ok (.imul, 1)) (k : Z x g nL ρ (pc + 1) L (.int (a * b) :: st) σ) : Z x g nL ρ pc L (.int b :: .int a :: st) σ := by
  obtain ⟨p, l, e, R, s, m, args, below, meth, c⟩ := x
  intro H locs ls hP hS h
  exact lv_imul hc.1 hc.2.1 hd (k H locs ls hP hS h)
theorem z_iand {a b : Int32} (hc : Zc x g cc own nL ret d) (hd : decode cc pc = .ok (.iand, 1)) (k : Z x g nL ρ (pc + 1) L (.int (a &&& b) :: st) σ) : Z x g nL ρ pc L (.int b :: .int a :: st) σ := by
  obtain ⟨p, l, e, R, s, m, args, below, meth, c⟩ := x
  intro H locs ls hP hS h
  exact lv_iand hc.1 hc.2.1 hd (k H locs ls hP hS h)
theorem z_ior {a b : Int32} (hc : Zc x g cc own nL ret d) (hd : decode cc pc = .ok (.ior, 1)) (k : Z x g nL ρ (pc + 1) L (.int (a ||| b) :: st) σ) : Z x g nL ρ pc L (.int b :: .int a :: st) σ := by
  obtain ⟨p, l, e, R, s, m, args, below, meth, c⟩ := x
  intro H locs ls hP hS h
  exact lv_ior hc.1 hc.2.1 hd (k H locs ls hP hS h)
theorem z_ixor {a b : Int32} (hc : Zc x g cc own nL ret d) (hd : decode cc pc = .ok (.ixor, 1)) (k : Z x g nL ρ (pc + 1) L (.int (a ^^^ b) :: st) σ) : Z x g nL ρ pc L (.int b :: .int a :: st) σ := by
  obtain ⟨p, l, e, R, s, m, args, below, meth, c⟩ := x
  intro H locs ls hP hS h
  exact lv_ixor hc.1 hc.2.1 hd (k H locs ls hP hS h)
theorem z_idiv {a b : Int32} (hc : Zc x g cc own nL ret d) (hd : decode cc pc = .ok (.idiv, 1)) (hne : ¬ b = 0) (k : Z x g nL ρ (pc + 1) L (.int (a / b) :: st) σ) : Z x g nL ρ pc L (.int b :: .int a :: st) σ := by
  obtain ⟨p, l, e, R, s, m, args, below, meth, c⟩ := x
  intro H locs ls hP hS h
  exact lv_idiv hc.1 hc.2.1 hd hne (k H locs ls hP hS h)
theorem z_irem {a b : Int32} (hc : Zc x g cc own nL ret d) (hd : decode cc pc = .ok (.irem, 1)) (hne : ¬ b = 0) (k : Z x g nL ρ (pc + 1) L (.int (a - a / b * b) :: st) σ) : Z x g nL ρ pc L (.int b :: .int a :: st) σ := by
  obtain ⟨p, l, e, R, s, m, args, below, meth, c⟩ := x
  intro H locs ls hP hS h
  exact lv_irem hc.1 hc.2.1 hd hne (k H locs ls hP hS h)
theorem z_ishl {a b : Int32} (hc : Zc x g cc own nL ret d) (hd : decode cc pc = .ok (.ishl, 1)) (k : Z x g nL ρ (pc + 1) L (.int (a <<< (b &&& 31)) :: st) σ) : Z x g nL ρ pc L (.int b :: .int a :: st) σ := by
  obtain ⟨p, l, e, R, s, m, args, below, meth, c⟩ := x
  intro H locs ls hP hS h
  exact lv_ishl hc.1 hc.2.1 hd (k H locs ls hP hS h)
theorem z_ishr {a b : Int32} (hc : Zc x g cc own nL ret d) (hd : decode cc pc = .ok (.ishr, 1)) (k : Z x g nL ρ (pc + 1) L (.int (a >>> (b &&& 31)) :: st) σ) : Z x g nL ρ pc L (.int b :: .int a :: st) σ := by
  obtain ⟨p, l, e, R, s, m, args, below, meth, c⟩ := x
  intro H locs ls hP hS h
  exact lv_ishr hc.1 hc.2.1 hd (k H locs ls hP hS h)
theorem z_iushr {a b : Int32} (hc : Zc x g cc own nL ret d) (hd : decode cc pc = .ok (.iushr, 1)) (k : Z x g nL ρ (pc + 1) L (.int ((a.toUInt32 >>> (b.toUInt32 &&& Int32.toUInt32 31)).toInt32) :: st) σ) : Z x g nL ρ pc L (.int b :: .int a :: st) σ := by
  obtain ⟨p, l, e, R, s, m, args, below, meth, c⟩ := x
  intro H locs ls hP hS h
  exact lv_iushr hc.1 hc.2.1 hd rfl (k H locs ls hP hS h)
theorem z_lushr {a : Int64} {b : Int32} (hc : Zc x g cc own nL ret d) (hd : decode cc pc = .ok (.lushr, 1)) (k : Z x g nL ρ (pc + 1) L (.long ((a.toUInt64 >>> (b.toInt64.toUInt64 &&& Int64.toUInt64 63)).toInt64) :: st) σ) : Z x g nL ρ pc L (.int b :: .long a :: st) σ := by
  obtain ⟨p, l, e, R, s, m, args, below, meth, c⟩ := x
  intro H locs ls hP hS h
  exact lv_lushr hc.1 hc.2.1 hd rfl (k H locs ls hP hS h)
theorem z_lshl {a : Int64} {b : Int32} (hc : Zc x g cc own nL ret d) (hd : decode cc pc = .ok (.lshl, 1)) (k : Z x g nL ρ (pc + 1) L (.long (a <<< (b.toInt64 &&& 63)) :: st) σ) : Z x g nL ρ pc L (.int b :: .long a :: st) σ := by
  obtain ⟨p, l, e, R, s, m, args, below, meth, c⟩ := x
  intro H locs ls hP hS h
  exact lv_lshl hc.1 hc.2.1 hd rfl (k H locs ls hP hS h)
theorem z_ladd {a b : Int64} (hc : Zc x g cc own nL ret d) (hd : decode cc pc = .ok (.ladd, 1)) (k : Z x g nL ρ (pc + 1) L (.long (a + b) :: st) σ) : Z x g nL ρ pc L (.long b :: .long a :: st) σ := by
  obtain ⟨p, l, e, R, s, m, args, below, meth, c⟩ := x
  intro H locs ls hP hS h
  exact lv_ladd hc.1 hc.2.1 hd (k H locs ls hP hS h)
theorem z_lsub {a b : Int64} (hc : Zc x g cc own nL ret d) (hd : decode cc pc = .ok (.lsub, 1)) (k : Z x g nL ρ (pc + 1) L (.long (a - b) :: st) σ) : Z x g nL ρ pc L (.long b :: .long a :: st) σ := by
  obtain ⟨p, l, e, R, s, m, args, below, meth, c⟩ := x
  intro H locs ls hP hS h
  exact lv_lsub hc.1 hc.2.1 hd (k H locs ls hP hS h)
theorem z_lmul {a b : Int64} (hc : Zc x g cc own nL ret d) (hd : decode cc pc = .ok (.lmul, 1)) (k : Z x g nL ρ (pc + 1) L (.long (a * b) :: st) σ) : Z x g nL ρ pc L (.long b :: .long a :: st) σ := by
  obtain ⟨p, l, e, R, s, m, args, below, meth, c⟩ := x
  intro H locs ls hP hS h
  exact lv_lmul hc.1 hc.2.1 hd (k H locs ls hP hS h)
theorem z_land {a b : Int64} (hc : Zc x g cc own nL ret d) (hd : decode cc pc = .ok (.land, 1)) (k : Z x g nL ρ (pc + 1) L (.long (a &&& b) :: st) σ) : Z x g nL ρ pc L (.long b :: .long a :: st) σ := by
  obtain ⟨p, l, e, R, s, m, args, below, meth, c⟩ := x
  intro H locs ls hP hS h
  exact lv_land hc.1 hc.2.1 hd (k H locs ls hP hS h)
theorem z_lor {a b : Int64} (hc : Zc x g cc own nL ret d) (hd : decode cc pc = .ok (.lor, 1)) (k : Z x g nL ρ (pc + 1) L (.long (a ||| b) :: st) σ) : Z x g nL ρ pc L (.long b :: .long a :: st) σ := by
  obtain ⟨p, l, e, R, s, m, args, below, meth, c⟩ := x
  intro H locs ls hP hS h
  exact lv_lor hc.1 hc.2.1 hd (k H locs ls hP hS h)
theorem z_lxor {a b : Int64} (hc : Zc x g cc own nL ret d) (hd : decode cc pc = .ok (.lxor, 1)) (k : Z x g nL ρ (pc + 1) L (.long (a ^^^ b) :: st) σ) : Z x g nL ρ pc L (.long b :: .long a :: st) σ := by
  obtain ⟨p, l, e, R, s, m, args, below, meth, c⟩ := x
  intro H locs ls hP hS h
  exact lv_lxor hc.1 hc.2.1 hd (k H locs ls hP hS h)
theorem z_lcmp {a b : Int64} (hc : Zc x g cc own nL ret d) (hd : decode cc pc = .ok (.lcmp, 1)) (k : Z x g nL ρ (pc + 1) L (.int (lg_cmp a b) :: st) σ) : Z x g nL ρ pc L (.long b :: .long a :: st) σ := by
  obtain ⟨p, l, e, R, s, m, args, below, meth, c⟩ := x
  intro H locs ls hP hS h
  exact W.lcmp hc.1 hc.2.1 hd (k H locs ls hP hS h)
theorem z_i2l {a : Int32} (hc : Zc x g cc own nL ret d) (hd : decode cc pc = .ok (.i2l, 1)) (k : Z x g nL ρ (pc + 1) L (.long a.toInt64 :: st) σ) : Z x g nL ρ pc L (.int a :: st) σ := by
  obtain ⟨p, l, e, R, s, m, args, below, meth, c⟩ := x
  intro H locs ls hP hS h
  exact lv_i2l hc.1 hc.2.1 hd rfl (k H locs ls hP hS h)
theorem z_l2i {a : Int64} (hc : Zc x g cc own nL ret d) (hd : decode cc pc = .ok (.l2i, 1)) (k : Z x g nL ρ (pc + 1) L (.int a.toInt32 :: st) σ) : Z x g nL ρ pc L (.long a :: st) σ := by
  obtain ⟨p, l, e, R, s, m, args, below, meth, c⟩ := x
  intro H locs ls hP hS h
  exact lv_l2i hc.1 hc.2.1 hd rfl (k H locs ls hP hS h)
theorem z_i2b {a : Int32} (hc : Zc x g cc own nL ret d) (hd : decode cc pc = .ok (.i2b, 1)) (k : Z x g nL ρ (pc + 1) L (.int a.toInt8.toInt32 :: st) σ) : Z x g nL ρ pc L (.int a :: st) σ := by
  obtain ⟨p, l, e, R, s, m, args, below, meth, c⟩ := x
  intro H locs ls hP hS h
  exact lv_i2b hc.1 hc.2.1 hd rfl (k H locs ls hP hS h)
theorem z_i2s {a : Int32} (hc : Zc x g cc own nL ret d) (hd : decode cc pc = .ok (.i2s, 1)) (k : Z x g nL ρ (pc + 1) L (.int a.toInt16.toInt32 :: st) σ) : Z x g nL ρ pc L (.int a :: st) σ := by
  obtain ⟨p, l, e, R, s, m, args, below, meth, c⟩ := x
  intro H locs ls hP hS h
  exact lv_i2s hc.1 hc.2.1 hd rfl (k H locs ls hP hS h)
theorem z_i2c {a : Int32} (hc : Zc x g cc own nL ret d) (hd : decode cc pc = .ok (.i2c, 1)) (k : Z x g nL ρ (pc + 1) L (.int (a.toUInt32 % 65536).toInt32 :: st) σ) : Z x g nL ρ pc L (.int a :: st) σ := by
  obtain ⟨p, l, e, R, s, m, args, below, meth, c⟩ := x
  intro H locs ls hP hS h
  exact lv_i2c hc.1 hc.2.1 hd rfl (k H locs ls hP hS h)
theorem z_dup {va : Value} (hc : Zc x g cc own nL ret d) (hd : decode cc pc = .ok (.dup, 1)) (h1 : va.category = 1) (k : Z x g nL ρ (pc + 1) L (va :: va :: st) σ) : Z x g nL ρ pc L (va :: st) σ := by
  obtain ⟨p, l, e, R, s, m, args, below, meth, c⟩ := x
  intro H locs ls hP hS h
  exact lv_dup hc.1 hc.2.1 hd h1 (k H locs ls hP hS h)
theorem z_pop {va : Value} (hc : Zc x g cc own nL ret d) (hd : decode cc pc = .ok (.pop, 1)) (h1 : va.category = 1) (k : Z x g nL ρ (pc + 1) L st σ) : Z x g nL ρ pc L (va :: st) σ := by
  obtain ⟨p, l, e, R, s, m, args, below, meth, c⟩ := x
  intro H locs ls hP hS h
  exact lv_pop hc.1 hc.2.1 hd h1 (k H locs ls hP hS h)
theorem z_dup2 {va vb : Value} (hc : Zc x g cc own nL ret d) (hd : decode cc pc = .ok (.dup2, 1)) (h1 : va.category = 1) (h2 : vb.category = 1) (k : Z x g nL ρ (pc + 1) L (va :: vb :: va :: vb :: st) σ) : Z x g nL ρ pc L (va :: vb :: st) σ := by
  obtain ⟨p, l, e, R, s, m, args, below, meth, c⟩ := x
  intro H locs ls hP hS h
  exact lv_dup2_11 hc.1 hc.2.1 hd h1 h2 (k H locs ls hP hS h)
theorem z_goto {off : Int} {tgt : Nat} (hc : Zc x g cc own nL ret d) (hd : decode cc pc = .ok (.goto off, 3)) (ht : (pc : Int) + off = (tgt : Int)) (k : Z x g nL ρ tgt L st σ) : Z x g nL ρ pc L st σ := by
  obtain ⟨p, l, e, R, s, m, args, below, meth, c⟩ := x
  intro H locs ls hP hS h
  exact lv_goto hc.1 hc.2.1 hd ht (k H locs ls hP hS h)
theorem z_if_eq {a : Int32} {off : Int} {tgt : Nat} (hc : Zc x g cc own nL ret d) (hd : decode cc pc = .ok (.ifCond .eq off, 3)) (ht : (pc : Int) + off = (tgt : Int)) (kt : a = iI 0 → Z x g nL ρ tgt L st σ) (kf : ¬ (a = iI 0) → Z x g nL ρ (pc + 3) L st σ) : Z x g nL ρ pc L (.int a :: st) σ := by
  obtain ⟨p, l, e, R, s, m, args, below, meth, c⟩ := x
  intro H locs ls hP hS h
  exact lv_if_eq hc.1 hc.2.1 hd ht (fun q => kt q H locs ls hP hS h) (fun q => kf q H locs ls hP hS h)
theorem z_icmp_eq {a b : Int32} {off : Int} {tgt : Nat} (hc : Zc x g cc own nL ret d) (hd : decode cc pc = .ok (.if_icmp .eq off, 3)) (ht : (pc : Int) + off = (tgt : Int)) (kt : a = b → Z x g nL ρ tgt L st σ) (kf : ¬ (a = b) → Z x g nL ρ (pc + 3) L st σ) : Z x g nL ρ pc L (.int b :: .int a :: st) σ := by
  obtain ⟨p, l, e, R, s, m, args, below, meth, c⟩ := x
  intro H locs ls hP hS h
  exact lv_icmp_eq hc.1 hc.2.1 hd ht (fun q => kt q H locs ls hP hS h) (fun q => kf q H locs ls hP hS h)
theorem z_if_ne {a : Int32} {off : Int} {tgt : Nat} (hc : Zc x g cc own nL ret d) (hd : decode cc pc = .ok (.ifCond .ne off, 3)) (ht : (pc : Int) + off = (tgt : Int)) (kt : ¬ a = iI 0 → Z x g nL ρ tgt L st σ) (kf : a = iI 0 → Z x g nL ρ (pc + 3) L st σ) : Z x g nL ρ pc L (.int a :: st) σ := by
  obtain ⟨p, l, e, R, s, m, args, below, meth, c⟩ := x
  intro H locs ls hP hS h
  exact lv_if_ne hc.1 hc.2.1 hd ht (fun q => kt q H locs ls hP hS h) (fun q => kf q H locs ls hP hS h)
theorem z_icmp_ne {a b : Int32} {off : Int} {tgt : Nat} (hc : Zc x g cc own nL ret d) (hd : decode cc pc = .ok (.if_icmp .ne off, 3)) (ht : (pc : Int) + off = (tgt : Int)) (kt : ¬ a = b → Z x g nL ρ tgt L st σ) (kf : a = b → Z x g nL ρ (pc + 3) L st σ) : Z x g nL ρ pc L (.int b :: .int a :: st) σ := by
  obtain ⟨p, l, e, R, s, m, args, below, meth, c⟩ := x
  intro H locs ls hP hS h
  exact lv_icmp_ne hc.1 hc.2.1 hd ht (fun q => kt q H locs ls hP hS h) (fun q => kf q H locs ls hP hS h)
theorem z_if_lt {a : Int32} {off : Int} {tgt : Nat} (hc : Zc x g cc own nL ret d) (hd : decode cc pc = .ok (.ifCond .lt off, 3)) (ht : (pc : Int) + off = (tgt : Int)) (kt : a < iI 0 → Z x g nL ρ tgt L st σ) (kf : ¬ (a < iI 0) → Z x g nL ρ (pc + 3) L st σ) : Z x g nL ρ pc L (.int a :: st) σ := by
  obtain ⟨p, l, e, R, s, m, args, below, meth, c⟩ := x
  intro H locs ls hP hS h
  exact lv_if_lt hc.1 hc.2.1 hd ht (fun q => kt q H locs ls hP hS h) (fun q => kf q H locs ls hP hS h)
theorem z_icmp_lt {a b : Int32} {off : Int} {tgt : Nat} (hc : Zc x g cc own nL ret d) (hd : decode cc pc = .ok (.if_icmp .lt off, 3)) (ht : (pc : Int) + off = (tgt : Int)) (kt : a < b → Z x g nL ρ tgt L st σ) (kf : ¬ (a < b) → Z x g nL ρ (pc + 3) L st σ) : Z x g nL ρ pc L (.int b :: .int a :: st) σ := by
  obtain ⟨p, l, e, R, s, m, args, below, meth, c⟩ := x
  intro H locs ls hP hS h
  exact lv_icmp_lt hc.1 hc.2.1 hd ht (fun q => kt q H locs ls hP hS h) (fun q => kf q H locs ls hP hS h)
theorem z_if_ge {a : Int32} {off : Int} {tgt : Nat} (hc : Zc x g cc own nL ret d) (hd : decode cc pc = .ok (.ifCond .ge off, 3)) (ht : (pc : Int) + off = (tgt : Int)) (kt : iI 0 ≤ a → Z x g nL ρ tgt L st σ) (kf : ¬ (iI 0 ≤ a) → Z x g nL ρ (pc + 3) L st σ) : Z x g nL ρ pc L (.int a :: st) σ := by
  obtain ⟨p, l, e, R, s, m, args, below, meth, c⟩ := x
  intro H locs ls hP hS h
  exact lv_if_ge hc.1 hc.2.1 hd ht (fun q => kt q H locs ls hP hS h) (fun q => kf q H locs ls hP hS h)
theorem z_icmp_ge {a b : Int32} {off : Int} {tgt : Nat} (hc : Zc x g cc own nL ret d) (hd : decode cc pc = .ok (.if_icmp .ge off, 3)) (ht : (pc : Int) + off = (tgt : Int)) (kt : b ≤ a → Z x g nL ρ tgt L st σ) (kf : ¬ (b ≤ a) → Z x g nL ρ (pc + 3) L st σ) : Z x g nL ρ pc L (.int b :: .int a :: st) σ := by
  obtain ⟨p, l, e, R, s, m, args, below, meth, c⟩ := x
  intro H locs ls hP hS h
  exact lv_icmp_ge hc.1 hc.2.1 hd ht (fun q => kt q H locs ls hP hS h) (fun q => kf q H locs ls hP hS h)
theorem z_if_gt {a : Int32} {off : Int} {tgt : Nat} (hc : Zc x g cc own nL ret d) (hd : decode cc pc = .ok (.ifCond .gt off, 3)) (ht : (pc : Int) + off = (tgt : Int)) (kt : iI 0 < a → Z x g nL ρ tgt L st σ) (kf : ¬ (iI 0 < a) → Z x g nL ρ (pc + 3) L st σ) : Z x g nL ρ pc L (.int a :: st) σ := by
  obtain ⟨p, l, e, R, s, m, args, below, meth, c⟩ := x
  intro H locs ls hP hS h
  exact lv_if_gt hc.1 hc.2.1 hd ht (fun q => kt q H locs ls hP hS h) (fun q => kf q H locs ls hP hS h)
theorem z_icmp_gt {a b : Int32} {off : Int} {tgt : Nat} (hc : Zc x g cc own nL ret d) (hd : decode cc pc = .ok (.if_icmp .gt off, 3)) (ht : (pc : Int) + off = (tgt : Int)) (kt : b < a → Z x g nL ρ tgt L st σ) (kf : ¬ (b < a) → Z x g nL ρ (pc + 3) L st σ) : Z x g nL ρ pc L (.int b :: .int a :: st) σ := by
  obtain ⟨p, l, e, R, s, m, args, below, meth, c⟩ := x
  intro H locs ls hP hS h
  exact lv_icmp_gt hc.1 hc.2.1 hd ht (fun q => kt q H locs ls hP hS h) (fun q => kf q H locs ls hP hS h)
theorem z_if_le {a : Int32} {off : Int} {tgt : Nat} (hc : Zc x g cc own nL ret d) (hd : decode cc pc = .ok (.ifCond .le off, 3)) (ht : (pc : Int) + off = (tgt : Int)) (kt : a ≤ iI 0 → Z x g nL ρ tgt L st σ) (kf : ¬ (a ≤ iI 0) → Z x g nL ρ (pc + 3) L st σ) : Z x g nL ρ pc L (.int a :: st) σ := by
  obtain ⟨p, l, e, R, s, m, args, below, meth, c⟩ := x
  intro H locs ls hP hS h
  exact lv_if_le hc.1 hc.2.1 hd ht (fun q => kt q H locs ls hP hS h) (fun q => kf q H locs ls hP hS h)
theorem z_icmp_le {a b : Int32} {off : Int} {tgt : Nat} (hc : Zc x g cc own nL ret d) (hd : decode cc pc = .ok (.if_icmp .le off, 3)) (ht : (pc : Int) + off = (tgt : Int)) (kt : a ≤ b → Z x g nL ρ tgt L st σ) (kf : ¬ (a ≤ b) → Z x g nL ρ (pc + 3) L st σ) : Z x g nL ρ pc L (.int b :: .int a :: st) σ := by
  obtain ⟨p, l, e, R, s, m, args, below, meth, c⟩ := x
  intro H locs ls hP hS h
  exact lv_icmp_le hc.1 hc.2.1 hd ht (fun q => kt q H locs ls hP hS h) (fun q => kf q H locs ls hP hS h)
theorem z_tab {a : Int32} {dflt lo hi : Int} {offs : Array Int} {len tgt : Nat} {off : Int} (v : Int32) (hc : Zc x g cc own nL ret d) (hd : decode cc pc = .ok (.tableswitch dflt lo hi offs, len)) (hv : a = v) (h1 : ¬ v.toInt < lo) (h2 : ¬ hi < v.toInt) (ho : offs[(v.toInt - lo).toNat]? = some off) (ht : (pc : Int) + off = (tgt : Int)) (k : Z x g nL ρ tgt L st σ) : Z x g nL ρ pc L (.int a :: st) σ := by
  obtain ⟨p, l, e, R, s, m, args, below, meth, c⟩ := x
  intro H locs ls hP hS h
  subst hv
  exact lv_tableIn hc.1 hc.2.1 hd h1 h2 ho ht (k H locs ls hP hS h)
theorem z_tabD {a : Int32} {dflt lo hi : Int} {offs : Array Int} {len tgt : Nat} (n : Nat) (hn : hi - lo + 1 = (n : Int)) (hc : Zc x g cc own nL ret d) (hd : decode cc pc = .ok (.tableswitch dflt lo hi offs, len)) (hne : ∀ j : Nat, j < n → ¬ a = Int32.ofInt (lo + j)) (ht : (pc : Int) + dflt = (tgt : Int)) (k : Z x g nL ρ tgt L st σ) : Z x g nL ρ pc L (.int a :: st) σ := by
  obtain ⟨p, l, e, R, s, m, args, below, meth, c⟩ := x
  intro H locs ls hP hS h
  refine lv_tableOut hc.1 hc.2.1 hd ?_ ht (k H locs ls hP hS h)
  by_cases q1 : a.toInt < lo
  · exact Or.inl q1
  · by_cases q2 : hi < a.toInt
    · exact Or.inr q2
    · exfalso
      refine hne (a.toInt - lo).toNat (by omega) ?_
      rw [show lo + ((a.toInt - lo).toNat : Int) = a.toInt by omega]
      exact (Int32.ofInt_toInt a).symm
/-- an index of a row of n places -/
def rd (i : Int32) (n : Nat) : Option Nat := if i < 0 ∨ n ≤ i.toNatClampNeg then none else some i.toNatClampNeg
theorem rd_in {i : Int32} {n j : Nat} (h : rd i n = some j) : vp_in i n := by
  unfold rd at h
  split at h
  · cases h
  · assumption
theorem rd_eq {i : Int32} {n j : Nat} (h : rd i n = some j) : i.toNatClampNeg = j := by
  unfold rd at h
  split at h
  · cases h
  · exact Option.some.inj h
theorem rd_lt {i : Int32} {n j : Nat} (h : rd i n = some j) : j < n := by
  have h1 := rd_in h
  have h2 := rd_eq h
  subst h2
  exact Nat.not_le.mp fun q => h1 (Or.inr q)
/-- the cell of an address -/
theorem z_place {σ : Sg} {a : Ad} (ha : a ∈ dom) : ∃ q : Nat, dom[q]? = some a ∧ (W0 g σ)[q]? = some (gAd g a, ent g σ a) := by
  obtain ⟨q, hq⟩ := List.getElem?_of_mem ha
  exact ⟨q, hq, W0_at hq⟩
theorem z_get {C : String} {T : u_T} {N ci idx : Nat} {fs : List Value} {v : Value} (hc : Zc x g cc own nL ret d) (hd : decode cc pc = .ok (.getfield idx, 3)) (hin : ∀ w ∈ u_ws C T N, w ∈ TB) (hcl : classes[ci]? = some (C, T, N)) (f : Nat) (hf : f < N) (hl : Cond.fieldLink own idx (T f).1 (T f).2.1 (T f).2.2.1 ∈ TB) (a : Ad) (ha : a ∈ dom) (he : ent g σ a = .inr (ci, fs)) (hv : fs[f]? = some v) (k : Z x g nL ρ (pc + 3) L (v :: st) σ) : Z x g nL ρ pc L (.ref (gAd g a) :: st) σ := by
  obtain ⟨p, l, e, R, s, m, args, below, meth, c⟩ := x
  intro H locs ls hP hS h
  obtain ⟨hx, hb, hr, hml, hown, hts, hlk, hR, hK, hI, hE, hT⟩ := hc
  obtain ⟨q, hq, hw⟩ := z_place (g := g) (σ := σ) ha
  rw [he] at hw
  exact va_get hx hb hts hin hown hK hP q hw hcl f hf (hts _ hl) (fun _ h9 => h9) hv hd (k H locs ls hP hS h)
theorem z_put {C : String} {T : u_T} {N ci idx : Nat} {fs : List Value} {v : Value} {ty : FieldType} {σ' : Sg} (hc : Zc x g cc own nL ret d) (hd : decode cc pc = .ok (.putfield idx, 3)) (hin : ∀ w ∈ u_ws C T N, w ∈ TB) (ty0 : Nat → FieldType) (hty : ∀ k, k < N → parseFieldDescriptor (T k).2.2.1 = some (ty0 k)) (hnm : ∀ a, a < N → ∀ b, b < N → a ≠ b → (T a).2.1 ≠ (T b).2.1) (hcl : classes[ci]? = some (C, T, N)) (f : Nat) (hf : f < N) (hl : Cond.fieldLink own idx (T f).1 (T f).2.1 (T f).2.2.1 ∈ TB) (hfin : (T f).2.2.2 = false) (hdt : parseFieldDescriptor (T f).2.2.1 = some ty) (hn : narrow ty v = v) (hfit : fits ty v = true) (a : Ad) (ha : a ∈ dom) (he : ent g σ a = .inr (ci, fs)) (hlen : f < fs.length) (hs : ent g σ' a = .inr (ci, fs.set f v)) (ho : ∀ b : Ad, b ≠ a → ent g σ' b = ent g σ b) (k : Z x g nL ρ (pc + 3) L st σ') : Z x g nL ρ pc L (v :: .ref (gAd g a) :: st) σ := by
  obtain ⟨p, l, e, R, s, m, args, below, meth, c⟩ := x
  intro H locs ls hP hS h
  obtain ⟨hx, hb, hr, hml, hown, hts, hlk, hR, hK, hI, hE, hT⟩ := hc
  obtain ⟨q, hq, hw⟩ := z_place (g := g) (σ := σ) ha
  rw [he] at hw
  refine va_put hx hb hts hin ty0 hty hnm hown hK hP (W0_D hI σ s.heap.size) hS q hw hcl f hf (hts _ hl) (fun _ h9 => h9) hfin hdt hn hfit hlen hd (fun H1 locs1 hP1 hD1 hS1 => ?_)
  rw [W0_set hq hs ho] at hP1
  exact k H1 locs1 ls hP1 hS1 h
theorem z_ild {i : Int32} {n j : Nat} {f : Nat → Int32} (hc : Zc x g cc own nL ret d) (hd : decode cc pc = .ok (.iaload, 1)) (a : Ad) (ha : a ∈ dom) (he : ent g σ a = .inl (cInt g, n, .inl f)) (hj : rd i n = some j) (k : Z x g nL ρ (pc + 1) L (.int (f j) :: st) σ) : Z x g nL ρ pc L (.int i :: .ref (gAd g a) :: st) σ := by
  obtain ⟨p, l, e, R, s, m, args, below, meth, c⟩ := x
  intro H locs ls hP hS h
  obtain ⟨hx, hb, hr, hml, hown, hts, hlk, hR, hK, hI, hE, hT⟩ := hc
  obtain ⟨q, hq, hw⟩ := z_place (g := g) (σ := σ) ha
  rw [he] at hw
  refine va_iald hx hb hK hP q 0 hw rfl (rd_in hj) hd ?_
  rw [rd_eq hj]
  exact k H locs ls hP hS h
theorem z_cld {i : Int32} {n j : Nat} {f : Nat → Int32} (hc : Zc x g cc own nL ret d) (hd : decode cc pc = .ok (.caload, 1)) (a : Ad) (ha : a ∈ dom) (he : ent g σ a = .inl (cChar g, n, .inl f)) (hj : rd i n = some j) (k : Z x g nL ρ (pc + 1) L (.int (f j) :: st) σ) : Z x g nL ρ pc L (.int i :: .ref (gAd g a) :: st) σ := by
  obtain ⟨p, l, e, R, s, m, args, below, meth, c⟩ := x
  intro H locs ls hP hS h
  obtain ⟨hx, hb, hr, hml, hown, hts, hlk, hR, hK, hI, hE, hT⟩ := hc
  obtain ⟨q, hq, hw⟩ := z_place (g := g) (σ := σ) ha
  rw [he] at hw
  refine va_cald hx hb hK hP q 2 hw rfl (rd_in hj) hd ?_
  rw [rd_eq hj]
  exact k H locs ls hP hS h
theorem z_lld {i : Int32} {n j : Nat} {f : Nat → Int64} (hc : Zc x g cc own nL ret d) (hd : decode cc pc = .ok (.laload, 1)) (a : Ad) (ha : a ∈ dom) (he : ent g σ a = .inl (cLong g, n, .inr (.inl f))) (hj : rd i n = some j) (k : Z x g nL ρ (pc + 1) L (.long (f j) :: st) σ) : Z x g nL ρ pc L (.int i :: .ref (gAd g a) :: st) σ := by
  obtain ⟨p, l, e, R, s, m, args, below, meth, c⟩ := x
  intro H locs ls hP hS h
  obtain ⟨hx, hb, hr, hml, hown, hts, hlk, hR, hK, hI, hE, hT⟩ := hc
  obtain ⟨q, hq, hw⟩ := z_place (g := g) (σ := σ) ha
  rw [he] at hw
  refine va_lald hx hb hK hP q 1 hw rfl (rd_in hj) hd ?_
  rw [rd_eq hj]
  exact k H locs ls hP hS h
/-- t the place of the row's class in tysG -/
theorem z_ald {i : Int32} {n j : Nat} {cA : ClassId} {C : String} {f : Nat → Option Nat} {b : Nat} (hc : Zc x g cc own nL ret d) (hd : decode cc pc = .ok (.aaload, 1)) (t : Nat) (ht : (tysG g)[t]? = some (cA, .object C)) (a : Ad) (ha : a ∈ dom) (he : ent g σ a = .inl (cA, n, .inr (.inr (.inr (.inr f))))) (hj : rd i n = some j) (hb : f j = some b) (k : Z x g nL ρ (pc + 1) L (.ref b :: st) σ) : Z x g nL ρ pc L (.int i :: .ref (gAd g a) :: st) σ := by
  obtain ⟨p, l, e, R, s, m, args, below, meth, c⟩ := x
  intro H locs ls hP hS h
  obtain ⟨hx, hbb, hr, hml, hown, hts, hlk, hR, hK, hI, hE, hT⟩ := hc
  obtain ⟨q, hq, hw⟩ := z_place (g := g) (σ := σ) ha
  rw [he] at hw
  refine va_aldq hx hbb hK hP q t hw ht (rd_in hj) hd ?_
  rw [rd_eq hj, hb]
  exact k H locs ls hP hS h
theorem z_alen {y : vp_A} {cA : ClassId} {ty : FieldType} {v : Int32} (hc : Zc x g cc own nL ret d) (hd : decode cc pc = .ok (.arraylength, 1)) (t : Nat) (ht : (tysG g)[t]? = some (cA, ty)) (a : Ad) (ha : a ∈ dom) (he : ent g σ a = .inl (cA, y)) (hv : Int32.ofNat y.1 = v) (k : Z x g nL ρ (pc + 1) L (.int v :: st) σ) : Z x g nL ρ pc L (.ref (gAd g a) :: st) σ := by
  obtain ⟨p, l, e, R, s, m, args, below, meth, c⟩ := x
  intro H locs ls hP hS h
  obtain ⟨hx, hbb, hr, hml, hown, hts, hlk, hR, hK, hI, hE, hT⟩ := hc
  obtain ⟨q, hq, hw⟩ := z_place (g := g) (σ := σ) ha
  rw [he] at hw
  exact va_alen hx hbb hK hP q t hw ht hv hd (k H locs ls hP hS h)
theorem z_ist {i v : Int32} {n j : Nat} {f : Nat → Int32} {σ' : Sg} (hc : Zc x g cc own nL ret d) (hd : decode cc pc = .ok (.iastore, 1)) (a : Ad) (ha : a ∈ dom) (he : ent g σ a = .inl (cInt g, n, .inl f)) (hj : rd i n = some j) (hs : ent g σ' a = .inl (cInt g, n, .inl (upd f j v))) (ho : ∀ b : Ad, b ≠ a → ent g σ' b = ent g σ b) (k : Z x g nL ρ (pc + 1) L st σ') : Z x g nL ρ pc L (.int v :: .int i :: .ref (gAd g a) :: st) σ := by
  obtain ⟨p, l, e, R, s, m, args, below, meth, c⟩ := x
  intro H locs ls hP hS h
  obtain ⟨hx, hb, hr, hml, hown, hts, hlk, hR, hK, hI, hE, hT⟩ := hc
  obtain ⟨q, hq, hw⟩ := z_place (g := g) (σ := σ) ha
  rw [he] at hw
  refine va_iast hx hb hK hP (W0_D hI σ s.heap.size) hS q 0 hw rfl (rd_in hj) hd (fun H1 locs1 hP1 hD1 hS1 => ?_)
  rw [rd_eq hj, W0_set hq hs ho] at hP1
  exact k H1 locs1 ls hP1 hS1 h
theorem z_lst {i : Int32} {v : Int64} {n j : Nat} {f : Nat → Int64} {σ' : Sg} (hc : Zc x g cc own nL ret d) (hd : decode cc pc = .ok (.lastore, 1)) (a : Ad) (ha : a ∈ dom) (he : ent g σ a = .inl (cLong g, n, .inr (.inl f))) (hj : rd i n = some j) (hs : ent g σ' a = .inl (cLong g, n, .inr (.inl (vp_updL f j v)))) (ho : ∀ b : Ad, b ≠ a → ent g σ' b = ent g σ b) (k : Z x g nL ρ (pc + 1) L st σ') : Z x g nL ρ pc L (.long v :: .int i :: .ref (gAd g a) :: st) σ := by
  obtain ⟨p, l, e, R, s, m, args, below, meth, c⟩ := x
  intro H locs ls hP hS h
  obtain ⟨hx, hb, hr, hml, hown, hts, hlk, hR, hK, hI, hE, hT⟩ := hc
  obtain ⟨q, hq, hw⟩ := z_place (g := g) (σ := σ) ha
  rw [he] at hw
  refine va_last hx hb hK hP (W0_D hI σ s.heap.size) hS q 1 hw rfl (rd_in hj) hd (fun H1 locs1 hP1 hD1 hS1 => ?_)
  rw [rd_eq hj, W0_set hq hs ho] at hP1
  exact k H1 locs1 ls hP1 hS1 h
/-- ends -/
theorem z_iret {v : Int32} (hc : Zc x g cc own nL (some .int) d) (hd : decode cc pc = .ok (.ireturn, 1)) (hρ : ρ = (some (.int v), σ)) : Z x g nL ρ pc L [.int v] σ := by
  obtain ⟨p, l, e, R, s, m, args, below, meth, c⟩ := x
  intro H locs ls hP hS h
  subst hρ
  exact W.iret hc.1 hc.2.1 hc.2.2.1 (fun t ht hW => ⟨rfl, by rw [ht]; exact hP, hS.F ht⟩) hS.2.2 hd hc.2.2.2.2.2.2.1
theorem z_zret {v : Int32} {ty : FieldType} (hc : Zc x g cc own nL (some ty) d) (hd : decode cc pc = .ok (.ireturn, 1)) (hn : narrow ty (.int v) = .int v) (hρ : ρ = (some (.int v), σ)) : Z x g nL ρ pc L [.int v] σ := by
  obtain ⟨p, l, e, R, s, m, args, below, meth, c⟩ := x
  intro H locs ls hP hS h
  subst hρ
  exact W.zret hc.1 hc.2.1 hc.2.2.1 hn (fun t ht hW => ⟨rfl, by rw [ht]; exact hP, hS.F ht⟩) hS.2.2 hd hc.2.2.2.2.2.2.1
theorem z_lret {v : Int64} (hc : Zc x g cc own nL (some .long) d) (hd : decode cc pc = .ok (.lreturn, 1)) (hρ : ρ = (some (.long v), σ)) : Z x g nL ρ pc L [.long v] σ := by
  obtain ⟨p, l, e, R, s, m, args, below, meth, c⟩ := x
  intro H locs ls hP hS h
  subst hρ
  exact W.lret hc.1 hc.2.1 hc.2.2.1 (fun t ht hW => ⟨rfl, by rw [ht]; exact hP, hS.F ht⟩) hS.2.2 hd hc.2.2.2.2.2.2.1
theorem z_vret (hc : Zc x g cc own nL none d) (hd : decode cc pc = .ok (.return_, 1)) (hρ : ρ = (none, σ)) : Z x g nL ρ pc L [] σ := by
  obtain ⟨p, l, e, R, s, m, args, below, meth, c⟩ := x
  intro H locs ls hP hS h
  subst hρ
  exact W.vret hc.1 hc.2.1 hc.2.2.1 (fun t ht hW => ⟨rfl, by rw [ht]; exact hP, hS.F ht⟩) hS.2.2 hd hc.2.2.2.2.2.2.1
end ROWS
