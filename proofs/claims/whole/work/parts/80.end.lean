theorem whole_start {p : Program} {e : Env} {s : State} {m : MethodId} {below : List Frame} {meth : Method} {c : Code} (l : Launch) (hflags : l.flags = flags0) {b L : Nat} {xs : Nat → Int32} (hL : L ≤ 3072) (C0 : lw_At p s m meth c b L xs) : W p l e room_1 s m #[Value.ref b] below meth c s.heap [] 0 0 (lw_Z below #[Value.ref b] s) (entryFrame m ([Value.ref b] : List Value).toArray 4) := by
  obtain ⟨hx, hb, hr, hml, hown, hts, hX, hbl, hlk, hgv⟩ := C0
  have hF : ∀ c ∈ flK, c.before #[Value.ref b] s = true := flat_of_before _ hgv
  have hts' : ∀ w ∈ TB, w.before #[Value.ref b] s = true := fun w hw => hts w (tbAll hw)
  have hcl : ∀ c : Nat, ∃ z : ClassId × (Nat → Nat), ∀ q : vw_C, classes[c]? = some q → u_Kn s q.1 q.2.1 q.2.2 z.1 z.2 := by
    intro c
    match c with
    | 0 =>
      obtain ⟨a, i, h⟩ := u_known (n := 3) hts' in_Kind (hts' _ (tb1 31 (by decide +kernel) (by decide +kernel)))
      exact ⟨(a, i), fun q hq => Option.some.inj hq ▸ h⟩
    | 1 =>
      obtain ⟨a, i, h⟩ := u_known (n := 3) hts' in_Mat (hts' _ (tb1 73 (by decide +kernel) (by decide +kernel)))
      exact ⟨(a, i), fun q hq => Option.some.inj hq ▸ h⟩
    | 2 =>
      obtain ⟨a, i, h⟩ := u_known (n := 7) hts' in_Rug (hts' _ (tb1 114 (by decide +kernel) (by decide +kernel)))
      exact ⟨(a, i), fun q hq => Option.some.inj hq ▸ h⟩
    | 3 =>
      obtain ⟨a, i, h⟩ := u_known (n := 3) hts' in_Runner (hts' _ (tb1 51 (by decide +kernel) (by decide +kernel)))
      exact ⟨(a, i), fun q hq => Option.some.inj hq ▸ h⟩
    | 4 =>
      obtain ⟨a, i, h⟩ := u_known (n := 3) hts' in_Shag (hts' _ (tb1 95 (by decide +kernel) (by decide +kernel)))
      exact ⟨(a, i), fun q hq => Option.some.inj hq ▸ h⟩
    | 5 =>
      obtain ⟨a, i, h⟩ := u_known (n := 3) hts' in_Sheet (hts' _ (tb1 226 (by decide +kernel) (by decide +kernel)))
      exact ⟨(a, i), fun q hq => Option.some.inj hq ▸ h⟩
    | 6 =>
      obtain ⟨a, i, h⟩ := u_known (n := 3) hts' in_Stair (hts' _ (tb1 84 (by decide +kernel) (by decide +kernel)))
      exact ⟨(a, i), fun q hq => Option.some.inj hq ▸ h⟩
    | 7 =>
      obtain ⟨a, i, h⟩ := u_known (n := 6) hts' in_Tape (hts' _ (tb1 197 (by decide +kernel) (by decide +kernel)))
      exact ⟨(a, i), fun q hq => Option.some.inj hq ▸ h⟩
    | 8 =>
      obtain ⟨a, i, h⟩ := u_known (n := 3) hts' in_Velvet (hts' _ (tb1 62 (by decide +kernel) (by decide +kernel)))
      exact ⟨(a, i), fun q hq => Option.some.inj hq ▸ h⟩
    | 9 =>
      obtain ⟨a, i, h⟩ := u_known (n := 8) hts' in_World (hts' _ (tb1 107 (by decide +kernel) (by decide +kernel)))
      exact ⟨(a, i), fun q hq => Option.some.inj hq ▸ h⟩
    | 10 =>
      obtain ⟨a, i, h⟩ := u_known (n := 9) hts' in_X (hts' _ (tb1 23 (by decide +kernel) (by decide +kernel)))
      exact ⟨(a, i), fun q hq => Option.some.inj hq ▸ h⟩
    | 11 =>
      obtain ⟨a, i, h⟩ := u_known (n := 18) hts' in_M (hts' _ (tb4 127 (by decide +kernel) (by decide +kernel)))
      exact ⟨(a, i), fun q hq => Option.some.inj hq ▸ h⟩
    | c + 12 => exact ⟨((m.cls), fun _ => 0), fun q hq => by cases hq⟩
  obtain ⟨f, hf⟩ := Classical.axiomOfChoice hcl
  have hA0 : ∀ a : Nat, a < s.heap.size → ¬ (fun q => s.heap.size ≤ q) a := fun a h1 h2 => Nat.not_le.mpr h1 h2
  obtain ⟨adK, adV, hSt, hev⟩ := vk_Sof (args := #[Value.ref b]) (s := s) (N := 12) (tm := tmK) (len := lenK) (byt := bytK) (A := fun q => s.heap.size ≤ q) (by decide) (fun i hi => hF _ (sm_ex i hi)) (fun i hi => hF _ (sm_co i hi)) (fun i hi => hF _ (sm_ar i hi)) (fun i hi => hF _ (sm_le i hi)) (fun i hi j hj => hF _ (sm_el i hi j hj)) (fun i j hi hj h => (sm_ne i hi j hj h).imp (fun q => hF _ q) (fun q => hF _ q)) hA0
  obtain ⟨c1, k1, p1, i1, i2, i3⟩ := Cond.arrayClass_spec (type := .int) (hts' _ (tb1 192 (by decide +kernel) (by decide +kernel)))
  obtain ⟨c2, k2, p2, l1, l2, l3⟩ := Cond.arrayClass_spec (type := .long) (hts' _ (tb1 193 (by decide +kernel) (by decide +kernel)))
  obtain ⟨c3, k3, p3, h1, h2, h3⟩ := Cond.arrayClass_spec (type := .char) (hts' _ (tb4 187 (by decide +kernel) (by decide +kernel)))
  have aR : va_AO "CarpetRealms$Rug" s := va_AO.of (hts _ (tl1 113 (by decide +kernel)))
  have aS : va_AO "CarpetRealms$Sheet" s := va_AO.of (hts _ (tl1 225 (by decide +kernel)))
  have aK : va_AO "CarpetRealms$Kind" s := va_AO.of (hts _ (tl1 105 (by decide +kernel)))
  obtain ⟨p4, c4, k4, r1, r2, r3, r4, r5⟩ := Cond.arrayOver_spec aR
  obtain ⟨p5, c5, k5, s1, s2, s3, s4, s5⟩ := Cond.arrayOver_spec aS
  obtain ⟨p6, c6, k6, t1, t2, t3, t4, t5⟩ := Cond.arrayOver_spec aK
  let g : Gv := ((fun c => (f c).1, fun c => (f c).2), (c1, c2, c3, c4, c5, c6), (fun _ => 0), adK, adV)
  have hK : va_K g.1 classes (tysG g) s := by
    refine ⟨fun c q hq => hf c q hq, fun k q hq => ?_⟩
    match k with
    | 0 => cases hq; exact ⟨fun N z => ⟨(fun k h => by cases h), k1, i2, p1, i3⟩, i1⟩
    | 1 => cases hq; exact ⟨fun N z => ⟨(fun k h => by cases h), k2, l2, p2, l3⟩, l1⟩
    | 2 => cases hq; exact ⟨fun N z => ⟨(fun k h => by cases h), k3, h2, p3, h3⟩, h1⟩
    | 3 => cases hq; exact ⟨fun N z => ⟨(fun k h => by cases h), k4, r3, p4, r4⟩, k4, p4, r3, r4, r1, r5⟩
    | 4 => cases hq; exact ⟨fun N z => ⟨(fun k h => by cases h), k5, s3, p5, s4⟩, k5, p5, s3, s4, s1, s5⟩
    | 5 => cases hq; exact ⟨fun N z => ⟨(fun k h => by cases h), k6, t3, p6, t4⟩, k6, p6, t3, t4, t1, t5⟩
    | k + 6 => cases hq
  have hSX : SrX g s := ⟨List.forall_mem_cons.mpr ⟨vk_R.of (hts _ (tl1 32 (by decide +kernel))) (hev 0 (by decide)), List.forall_mem_cons.mpr ⟨vk_R.of (hts _ (tl1 52 (by decide +kernel))) (hev 1 (by decide)), List.forall_mem_cons.mpr ⟨vk_R.of (hts _ (tl1 63 (by decide +kernel))) (hev 2 (by decide)), List.forall_mem_cons.mpr ⟨vk_R.of (hts _ (tl1 74 (by decide +kernel))) (hev 3 (by decide)), List.forall_mem_cons.mpr ⟨vk_R.of (hts _ (tl1 85 (by decide +kernel))) (hev 4 (by decide)), List.forall_mem_cons.mpr ⟨vk_R.of (hts _ (tl1 96 (by decide +kernel))) (hev 5 (by decide)), fun _ h => absurd h List.not_mem_nil⟩⟩⟩⟩⟩⟩, aR, aS, aK, List.forall_mem_cons.mpr ⟨Cond.castable_spec (hts _ (tl6 52 (by decide +kernel))), List.forall_mem_cons.mpr ⟨Cond.castable_spec (hts _ (tl6 53 (by decide +kernel))), List.forall_mem_cons.mpr ⟨Cond.castable_spec (hts _ (tl6 54 (by decide +kernel))), List.forall_mem_cons.mpr ⟨Cond.castable_spec (hts _ (tl6 55 (by decide +kernel))), List.forall_mem_cons.mpr ⟨Cond.castable_spec (hts _ (tl6 56 (by decide +kernel))), fun _ h => absurd h List.not_mem_nil⟩⟩⟩⟩⟩⟩
  have hSr : Sr g s := List.forall_mem_cons.mpr ⟨vk_R.of (hts _ (tl3 196 (by decide +kernel))) (hev 6 (by decide)), List.forall_mem_cons.mpr ⟨vk_R.of (hts _ (tl4 23 (by decide +kernel))) (hev 7 (by decide)), List.forall_mem_cons.mpr ⟨vk_R.of (hts _ (tl4 32 (by decide +kernel))) (hev 8 (by decide)), List.forall_mem_cons.mpr ⟨vk_R.of (hts _ (tl4 38 (by decide +kernel))) (hev 9 (by decide)), List.forall_mem_cons.mpr ⟨vk_R.of (hts _ (tl4 39 (by decide +kernel))) (hev 10 (by decide)), List.forall_mem_cons.mpr ⟨vk_R.of (hts _ (tl4 40 (by decide +kernel))) (hev 11 (by decide)), fun _ h => absurd h List.not_mem_nil⟩⟩⟩⟩⟩⟩
  have hE : Ex g (fun q => s.heap.size ≤ q) s s.heap := ⟨hSt, va_Zof (hts _ (tl3 214 (by decide +kernel))) (hts _ (tl1 18 (by decide +kernel))) (va_eqi (hF _ sm_cs)) hA0, va_Zqof (hts _ (tl3 230 (by decide +kernel))) (hts _ (tl1 20 (by decide +kernel))) (hF _ sm_sf) hA0⟩
  have hl := lv_entry [Value.ref b] (n := 4) (Nat.le_of_ble_eq_true rfl)
  rw [show lv_args 0 [Value.ref b] = [(0, .ref b)] from rfl] at hl
  rw [lg_entry_eq]
  refine st_walk (x := (p, l, e, room_1, s, m, #[Value.ref b], below, meth, c)) (A := fun q => s.heap.size ≤ q) (g := g) (nm := meth.name) ⟨hx, hb, hr, hml, hown, hts', hlk, ⟨by decide, by decide, by decide, by decide⟩, hK, rfl, hSX, fun q hq => hq⟩ (fun u v => ?_) s.heap [] _ (fun k q hq => by simp at hq) ⟨fun i j p q hp => by simp at hp, fun k q hq => by simp at hq⟩ va_S.rf hl
  intro H locs ls hP hD hS h
  rw [← gB_W g u v] at hP hD
  obtain ⟨hI, hAd⟩ := gB_inj hD
  have h' : lv_has ls 4 (LL (gB g u v) b 0) := by
    have e0 : iI ((6 * 0 : Nat) : Int) = 0 := by decide
    show lv_has ls 4 [(3, .int (iI ((6 * 0 : Nat) : Int))), (2, .ref (v (6, 0, 0))), (1, .ref (u (0, 0, 0))), (0, .ref b)]
    rw [e0]
    exact h
  exact law_loop (x := (p, l, e, room_1, s, m, #[Value.ref b], below, meth, c)) (g := gB g u v) (b := b) (L := L) (xs := xs) ⟨hx, hb, hr, hml, hown, hts', hlk, rfl, rfl, hK, hI, hE, hSr, hX, hbl, hAd⟩ hL 513 0 sg0 (by omega) (by omega) inv0 H locs ls hP hS h'
set_option maxHeartbeats 4000000 in
theorem lw_walk (l : Launch) (hflags : l.flags = flags0) (b : Addr) (xs : List Int32) : MetFree l x (headSpec (Jvm.Cond.code x code maxLocals ret :: tables_1) room_1) (lw_P b xs) (fun _ _ _ _ _ => True) lw_Q := by
  refine MetFree.of_bodyS (code := code) (maxLocals := maxLocals) (ret := ret) (by decide) ?_ ?_
  · intro args s m h hn
    obtain ⟨meth, c, h1, h2, h3, h4, h5, h6, -, -⟩ := Cond.code_spec hn (atoms_spec (ws := Jvm.Cond.code x code maxLocals ret :: tables_1) h _ List.mem_cons_self)
    exact ⟨meth, c, h1, h2, h3, h4, h5, h6⟩
  · intro p e s m args below meth c s₁ B hml0 hP _
    obtain ⟨rfl, hx, hbd, hgv⟩ := hP
    obtain ⟨scr, harrAt, hlist, hof, hsmall⟩ := hx
    obtain ⟨hcb, hkn, -, -⟩ := State.arrayAt?_spec harrAt
    have hown : s.vm.findClass R_law = some m.cls := findClass_of_methodNamed B.named
    have hts0 : ∀ c ∈ (Jvm.Cond.code x code maxLocals ret :: tables_1), c.before #[Value.ref b] s = true := atoms_spec (ws := Jvm.Cond.code x code maxLocals ret :: tables_1) B.pre
    have hts : ∀ w ∈ lw_tbl, w.before #[Value.ref b] s = true := k2_hts_sels lw_privs (fun w hw => hts0 w (List.mem_cons_of_mem _ hw)) lw_privs_ok
    have hml : c.maxLocals = 4 := B.maxLocals_eq (hts0 _ List.mem_cons_self)
    have X₀ : Stand p l e room_1 s m #[Value.ref b] below meth c s₁ [] 0 0 := Stand.of_body B
    have hh0 : s₁.heap = s.heap := by rw [B.state]; rfl
    have hsz : scr.slots.size = xs.length := by rw [← Array.length_toList, hlist, List.length_map]
    have hval : ∀ j : Nat, j < xs.length → scr.slots[j]? = some (.int (xs.getD j 0)) := fun j hj => by
      rw [← Array.getElem?_toList, hlist]
      simp [hj]
    have hbl : b < s.heap.size := (Array.getElem?_eq_some_iff.mp hcb).1
    have hX : va_X b xs.length (fun j => xs.getD j 0) s s.heap := ⟨scr, hcb, hof, hkn, hsz, hval⟩
    have K : W p l e room_1 s m #[Value.ref b] below meth c s₁.heap [] 0 0 (lw_Z below #[Value.ref b] s) (entryFrame m ([Value.ref b] : List Value).toArray 4) := by
      rw [hh0]
      exact whole_start l hflags hbd ⟨B.exec, B.bytes, B.returns, hml, hown, hts, hX, hbl, B.notSynchronized, hgv⟩
    obtain ⟨t, a1, o, b1, b2, b3⟩ := K s₁ rfl X₀
    exact ⟨t, o, a1, b1, b2, b3⟩
theorem lw_pre_spec {args : Array Value} {s : State} (h : (Jvm.Cond.and given_1 narrow_1).before args s = true) (hr : rest_1_c.before args s = true) : ∃ (b : Addr) (xs : List Int32), lw_P b xs args s := by
  have hs := flat_of_before _ h
  have hq := flat_of_before _ hr
  have hc : (Cond.count 1).before args s = true := hs _ (by decide +kernel)
  have harr : (Cond.arrayOf (.arg 0) .int).before args s = true := hs _ (by decide +kernel)
  have hle : (Cond.le (.length (.arg 0)) (.int 3072)).before args s = true := hs _ (by decide +kernel)
  have hlen : (Cond.isInt (.length (.arg 0))).before args s = true := hq _ (by decide +kernel)
  have hall : (Cond.all (.arg 0) (.isInt (.elem (.arg 0) (.index 0)))).before args s = true := hq _ (by decide +kernel)
  obtain ⟨b, xs, hb, hx⟩ := State.ints_of_pre rfl harr hlen hall
  have hsm : xs.length < 2 ^ 31 := hx.choose_spec.2.2.2
  have hev : (Term.length (.arg 0)).eval args s none [] s = some (.int xs.length.toInt32) := hx.length_eval hb
  have hv := Cond.le_ints hev (show (Term.int 3072).eval args s none [] s = some (.int 3072) from rfl)
  have hd : xs.length.toInt32 ≤ 3072 := by
    simpa [Cond.before, Cond.holds, hv] using hle
  have hN : xs.length ≤ 3072 := (Int32.ofNat_le_ofNat hsm (by decide)).mp (show Int32.ofNat xs.length ≤ Int32.ofNat 3072 from hd)
  exact ⟨b, xs, Cond.one_arg hc (show args[0]? = some (.ref b) from hb), hx, hN, h⟩
theorem lw_comes (l : Launch) (hflags : l.flags = flags0) : Comes l x (Jvm.Cond.code x code maxLocals ret :: tables_1) room_1 (fun tb e args s => Calls_1 tb e args s ∧ rest_1 tb e args s ∧ Pre_1 tb e args s)
    (fun _ _ args s o t => lw_Q args s o t) := by
  intro p e ha hc hk s m args below hf hfit hheap happ hpre
  obtain ⟨b, xs, hP⟩ := lw_pre_spec hpre.2.2 hpre.2.1
  obtain ⟨k, o, h1, h2, h3, hQ⟩ := lw_walk l hflags b xs p e ha hc hk s m args below hf ((Spec.applies_iff_loose hf).mp happ).1 hP trivial
  exact ⟨k, o, h1, h2, h3, hQ⟩
theorem lw_frame {s t : State} {o : Outcome} {args : Array Value} (h : Framed s o t [] 600000 7302250) :
    Framed s o t (fieldLocs frame_1_writes args s ++ arrayLocs frame_1_arrays args s ++ staticLocs frame_1_statics s) 600000 7302250 := h
theorem lw_limb (L : Cond) (hL : ∀ (args : Array Value) (s t : State), L.after args s (.returned (some (.int 1))) t = true) :
    ArmFor flags0 classFile x code maxLocals ret World_1 tables_1 room_1 Calls_1 rest_1 Pre_1
      (fun tb e a s o t => postC L tb e a s o t ∧ Framed s o t (fieldLocs frame_1_writes a s ++ arrayLocs frame_1_arrays a s ++ staticLocs frame_1_statics s) 600000 7302250) := by
  intro l hflags _ _ p e ha hc hk s m args below hf hfit hheap happ hpre
  obtain ⟨k, o, h1, h2, h3, rfl, hF⟩ := lw_comes l hflags p e ha hc hk s m args below hf hfit hheap happ hpre
  exact ⟨k, _, h1, h2, h3, hL args s _, lw_frame hF⟩
theorem i_vc : Claimed_1_1 ∧ Claimed_1_2 := ⟨lw_limb limb_1_1 (fun args s t => by simp [limb_1_1, Cond.after, Cond.holds, Cond.value]), lw_limb limb_1_2 (fun args s t => Cond.after_iff.mpr (by
  first | (rw [show limb_1_2 = Cond.eq .result (.int 1) from rfl, Cond.eq_ints (x := 1) (y := 1) rfl rfl]; simp; done) | (simp [limb_1_2, Cond.value, Term.eval]; done)))⟩
