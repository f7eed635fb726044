theorem d_String_length_8abf5_0 : decode c_String_length_8abf5 0 = .ok (.aload_n 0, 1) := by decide +kernel
theorem d_String_length_8abf5_1 : decode c_String_length_8abf5 1 = .ok (.getfield 9, 3) := by decide +kernel
theorem d_String_length_8abf5_4 : decode c_String_length_8abf5 4 = .ok (.arraylength, 1) := by decide +kernel
theorem d_String_length_8abf5_5 : decode c_String_length_8abf5 5 = .ok (.aload_n 0, 1) := by decide +kernel
theorem d_String_length_8abf5_6 : decode c_String_length_8abf5 6 = .ok (.invokevirtual 335, 3) := by decide +kernel
theorem d_String_length_8abf5_9 : decode c_String_length_8abf5 9 = .ok (.ishr, 1) := by decide +kernel
theorem d_String_length_8abf5_10 : decode c_String_length_8abf5 10 = .ok (.ireturn, 1) := by decide +kernel
theorem d_String_charAt_5068e_0 : decode c_String_charAt_5068e 0 = .ok (.aload_n 0, 1) := by decide +kernel
theorem d_String_charAt_5068e_1 : decode c_String_charAt_5068e 1 = .ok (.invokevirtual 492, 3) := by decide +kernel
theorem d_String_charAt_5068e_4 : decode c_String_charAt_5068e 4 = .ok (.ifCond .eq 12, 3) := by decide +kernel
theorem d_String_charAt_5068e_7 : decode c_String_charAt_5068e 7 = .ok (.aload_n 0, 1) := by decide +kernel
theorem d_String_charAt_5068e_8 : decode c_String_charAt_5068e 8 = .ok (.getfield 9, 3) := by decide +kernel
theorem d_String_charAt_5068e_11 : decode c_String_charAt_5068e 11 = .ok (.iload_n 1, 1) := by decide +kernel
theorem d_String_charAt_5068e_12 : decode c_String_charAt_5068e 12 = .ok (.invokestatic 495, 3) := by decide +kernel
theorem d_String_charAt_5068e_15 : decode c_String_charAt_5068e 15 = .ok (.ireturn, 1) := by decide +kernel
theorem d_String_charAt_5068e_16 : decode c_String_charAt_5068e 16 = .ok (.aload_n 0, 1) := by decide +kernel
theorem d_String_charAt_5068e_17 : decode c_String_charAt_5068e 17 = .ok (.getfield 9, 3) := by decide +kernel
theorem d_String_charAt_5068e_20 : decode c_String_charAt_5068e 20 = .ok (.iload_n 1, 1) := by decide +kernel
theorem d_String_charAt_5068e_21 : decode c_String_charAt_5068e 21 = .ok (.invokestatic 498, 3) := by decide +kernel
theorem d_String_charAt_5068e_24 : decode c_String_charAt_5068e 24 = .ok (.ireturn, 1) := by decide +kernel
theorem d_String_coder_7d493_0 : decode c_String_coder_7d493 0 = .ok (.getstatic 38, 3) := by decide +kernel
theorem d_String_coder_7d493_3 : decode c_String_coder_7d493 3 = .ok (.ifCond .eq 10, 3) := by decide +kernel
theorem d_String_coder_7d493_6 : decode c_String_coder_7d493 6 = .ok (.aload_n 0, 1) := by decide +kernel
theorem d_String_coder_7d493_7 : decode c_String_coder_7d493 7 = .ok (.getfield 15, 3) := by decide +kernel
theorem d_String_coder_7d493_10 : decode c_String_coder_7d493 10 = .ok (.goto 4, 3) := by decide +kernel
theorem d_String_coder_7d493_13 : decode c_String_coder_7d493 13 = .ok (.iconst 1, 1) := by decide +kernel
theorem d_String_coder_7d493_14 : decode c_String_coder_7d493 14 = .ok (.ireturn, 1) := by decide +kernel
theorem d_String_isLatin1_aae02_0 : decode c_String_isLatin1_aae02 0 = .ok (.getstatic 38, 3) := by decide +kernel
theorem d_String_isLatin1_aae02_3 : decode c_String_isLatin1_aae02 3 = .ok (.ifCond .eq 14, 3) := by decide +kernel
theorem d_String_isLatin1_aae02_6 : decode c_String_isLatin1_aae02 6 = .ok (.aload_n 0, 1) := by decide +kernel
theorem d_String_isLatin1_aae02_7 : decode c_String_isLatin1_aae02 7 = .ok (.getfield 15, 3) := by decide +kernel
theorem d_String_isLatin1_aae02_10 : decode c_String_isLatin1_aae02 10 = .ok (.ifCond .ne 7, 3) := by decide +kernel
theorem d_String_isLatin1_aae02_13 : decode c_String_isLatin1_aae02 13 = .ok (.iconst 1, 1) := by decide +kernel
theorem d_String_isLatin1_aae02_14 : decode c_String_isLatin1_aae02 14 = .ok (.goto 4, 3) := by decide +kernel
theorem d_String_isLatin1_aae02_17 : decode c_String_isLatin1_aae02 17 = .ok (.iconst 0, 1) := by decide +kernel
theorem d_String_isLatin1_aae02_18 : decode c_String_isLatin1_aae02 18 = .ok (.ireturn, 1) := by decide +kernel
theorem d_String_checkIndex_df160_0 : decode c_String_checkIndex_df160 0 = .ok (.iload_n 0, 1) := by decide +kernel
theorem d_String_checkIndex_df160_1 : decode c_String_checkIndex_df160 1 = .ok (.iload_n 1, 1) := by decide +kernel
theorem d_String_checkIndex_df160_2 : decode c_String_checkIndex_df160 2 = .ok (.getstatic 1053, 3) := by decide +kernel
theorem d_String_checkIndex_df160_5 : decode c_String_checkIndex_df160 5 = .ok (.invokestatic 1059, 3) := by decide +kernel
theorem d_String_checkIndex_df160_8 : decode c_String_checkIndex_df160 8 = .ok (.pop, 1) := by decide +kernel
theorem d_String_checkIndex_df160_9 : decode c_String_checkIndex_df160 9 = .ok (.return_, 1) := by decide +kernel
theorem d_StringLatin1_charAt_3b067_0 : decode c_StringLatin1_charAt_3b067 0 = .ok (.iload_n 1, 1) := by decide +kernel
theorem d_StringLatin1_charAt_3b067_1 : decode c_StringLatin1_charAt_3b067 1 = .ok (.aload_n 0, 1) := by decide +kernel
theorem d_StringLatin1_charAt_3b067_2 : decode c_StringLatin1_charAt_3b067 2 = .ok (.arraylength, 1) := by decide +kernel
theorem d_StringLatin1_charAt_3b067_3 : decode c_StringLatin1_charAt_3b067 3 = .ok (.invokestatic 9, 3) := by decide +kernel
theorem d_StringLatin1_charAt_3b067_6 : decode c_StringLatin1_charAt_3b067 6 = .ok (.aload_n 0, 1) := by decide +kernel
theorem d_StringLatin1_charAt_3b067_7 : decode c_StringLatin1_charAt_3b067 7 = .ok (.iload_n 1, 1) := by decide +kernel
theorem d_StringLatin1_charAt_3b067_8 : decode c_StringLatin1_charAt_3b067 8 = .ok (.baload, 1) := by decide +kernel
theorem d_StringLatin1_charAt_3b067_9 : decode c_StringLatin1_charAt_3b067 9 = .ok (.sipush 255, 3) := by decide +kernel
theorem d_StringLatin1_charAt_3b067_12 : decode c_StringLatin1_charAt_3b067 12 = .ok (.iand, 1) := by decide +kernel
theorem d_StringLatin1_charAt_3b067_13 : decode c_StringLatin1_charAt_3b067 13 = .ok (.i2c, 1) := by decide +kernel
theorem d_StringLatin1_charAt_3b067_14 : decode c_StringLatin1_charAt_3b067 14 = .ok (.ireturn, 1) := by decide +kernel
theorem d_Preconditions_checkIndex_8e157_0 : decode c_Preconditions_checkIndex_8e157 0 = .ok (.iload_n 0, 1) := by decide +kernel
theorem d_Preconditions_checkIndex_8e157_1 : decode c_Preconditions_checkIndex_8e157 1 = .ok (.ifCond .lt 8, 3) := by decide +kernel
theorem d_Preconditions_checkIndex_8e157_4 : decode c_Preconditions_checkIndex_8e157 4 = .ok (.iload_n 0, 1) := by decide +kernel
theorem d_Preconditions_checkIndex_8e157_5 : decode c_Preconditions_checkIndex_8e157 5 = .ok (.iload_n 1, 1) := by decide +kernel
theorem d_Preconditions_checkIndex_8e157_6 : decode c_Preconditions_checkIndex_8e157 6 = .ok (.if_icmp .lt 10, 3) := by decide +kernel
theorem d_Preconditions_checkIndex_8e157_9 : decode c_Preconditions_checkIndex_8e157 9 = .ok (.aload_n 2, 1) := by decide +kernel
theorem d_Preconditions_checkIndex_8e157_10 : decode c_Preconditions_checkIndex_8e157 10 = .ok (.iload_n 0, 1) := by decide +kernel
theorem d_Preconditions_checkIndex_8e157_11 : decode c_Preconditions_checkIndex_8e157 11 = .ok (.iload_n 1, 1) := by decide +kernel
theorem d_Preconditions_checkIndex_8e157_12 : decode c_Preconditions_checkIndex_8e157 12 = .ok (.invokestatic 95, 3) := by decide +kernel
theorem d_Preconditions_checkIndex_8e157_15 : decode c_Preconditions_checkIndex_8e157 15 = .ok (.athrow, 1) := by decide +kernel
theorem d_Preconditions_checkIndex_8e157_16 : decode c_Preconditions_checkIndex_8e157 16 = .ok (.iload_n 0, 1) := by decide +kernel
theorem d_Preconditions_checkIndex_8e157_17 : decode c_Preconditions_checkIndex_8e157 17 = .ok (.ireturn, 1) := by decide +kernel
theorem d_Kind_isOrIsUnder_0 : decode c_Kind_isOrIsUnder 0 = .ok (.aload_n 0, 1) := by decide +kernel
theorem d_Kind_isOrIsUnder_1 : decode c_Kind_isOrIsUnder 1 = .ok (.astore_n 2, 1) := by decide +kernel
theorem d_Kind_isOrIsUnder_2 : decode c_Kind_isOrIsUnder 2 = .ok (.aload_n 2, 1) := by decide +kernel
theorem d_Kind_isOrIsUnder_3 : decode c_Kind_isOrIsUnder 3 = .ok (.ifnull 21, 3) := by decide +kernel
theorem d_Kind_isOrIsUnder_6 : decode c_Kind_isOrIsUnder 6 = .ok (.aload_n 2, 1) := by decide +kernel
theorem d_Kind_isOrIsUnder_7 : decode c_Kind_isOrIsUnder 7 = .ok (.getfield 7, 3) := by decide +kernel
theorem d_Kind_isOrIsUnder_10 : decode c_Kind_isOrIsUnder 10 = .ok (.iload_n 1, 1) := by decide +kernel
theorem d_Kind_isOrIsUnder_11 : decode c_Kind_isOrIsUnder 11 = .ok (.if_icmp .ne 5, 3) := by decide +kernel
theorem d_Kind_isOrIsUnder_14 : decode c_Kind_isOrIsUnder 14 = .ok (.iconst 1, 1) := by decide +kernel
theorem d_Kind_isOrIsUnder_15 : decode c_Kind_isOrIsUnder 15 = .ok (.ireturn, 1) := by decide +kernel
theorem d_Kind_isOrIsUnder_16 : decode c_Kind_isOrIsUnder 16 = .ok (.aload_n 2, 1) := by decide +kernel
theorem d_Kind_isOrIsUnder_17 : decode c_Kind_isOrIsUnder 17 = .ok (.getfield 17, 3) := by decide +kernel
theorem d_Kind_isOrIsUnder_20 : decode c_Kind_isOrIsUnder 20 = .ok (.astore_n 2, 1) := by decide +kernel
theorem d_Kind_isOrIsUnder_21 : decode c_Kind_isOrIsUnder 21 = .ok (.goto (-19), 3) := by decide +kernel
theorem d_Kind_isOrIsUnder_24 : decode c_Kind_isOrIsUnder 24 = .ok (.iconst 0, 1) := by decide +kernel
theorem d_Kind_isOrIsUnder_25 : decode c_Kind_isOrIsUnder 25 = .ok (.ireturn, 1) := by decide +kernel
theorem vl_String_335 : VL R_String 335 y_String_coder_7d493 c_String_coder_7d493 1 (some .byte) 0 := ⟨tb3 209 (by decide +kernel) (by decide +kernel), tb3 210 (by decide +kernel) (by decide +kernel), tb3 211 (by decide +kernel) (by decide +kernel), tb1 18 (by decide +kernel) (by decide +kernel), k_String_coder_7d493, by decide, by decide, by decide +kernel, by decide⟩
theorem vl_String_492 : VL R_String 492 y_String_isLatin1_aae02 c_String_isLatin1_aae02 1 (some .boolean) 0 := ⟨tb3 219 (by decide +kernel) (by decide +kernel), tb3 220 (by decide +kernel) (by decide +kernel), tb3 221 (by decide +kernel) (by decide +kernel), tb1 18 (by decide +kernel) (by decide +kernel), k_String_isLatin1_aae02, by decide, by decide, by decide +kernel, by decide⟩
theorem vl_String_495 : SL R_String 495 y_StringLatin1_charAt_3b067 c_StringLatin1_charAt_3b067 2 (some .char) 2 := ⟨tb3 223 (by decide +kernel) (by decide +kernel), tb3 224 (by decide +kernel) (by decide +kernel), tb1 19 (by decide +kernel) (by decide +kernel), k_StringLatin1_charAt_3b067, by decide, by decide, by decide +kernel, by decide⟩
theorem vl_Latin_9 : SL R_StringLatin1 9 y_String_checkIndex_df160 c_String_checkIndex_df160 2 none 2 := ⟨tb3 226 (by decide +kernel) (by decide +kernel), tb3 227 (by decide +kernel) (by decide +kernel), tb1 18 (by decide +kernel) (by decide +kernel), k_String_checkIndex_df160, by decide, by decide, by decide +kernel, by decide⟩
theorem vl_String_1059 : SL R_String 1059 y_Preconditions_checkIndex_8e157 c_Preconditions_checkIndex_8e157 3 (some .int) 3 := ⟨tb3 231 (by decide +kernel) (by decide +kernel), tb3 232 (by decide +kernel) (by decide +kernel), tb1 20 (by decide +kernel) (by decide +kernel), k_Preconditions_checkIndex_8e157, by decide, by decide, by decide +kernel, by decide⟩
theorem sl_Tape_44 : VL R_Tape 44 y_String_length_8abf5 c_String_length_8abf5 1 (some .int) 0 := ⟨tb3 205 (by decide +kernel) (by decide +kernel), tb3 206 (by decide +kernel) (by decide +kernel), tb3 207 (by decide +kernel) (by decide +kernel), tb1 18 (by decide +kernel) (by decide +kernel), k_String_length_8abf5, by decide, by decide, by decide +kernel, by decide⟩
theorem sl_Tape_49 : VL R_Tape 49 y_String_charAt_5068e c_String_charAt_5068e 2 (some .char) 1 := ⟨tb3 215 (by decide +kernel) (by decide +kernel), tb3 216 (by decide +kernel) (by decide +kernel), tb3 217 (by decide +kernel) (by decide +kernel), tb1 18 (by decide +kernel) (by decide +kernel), k_String_charAt_5068e, by decide, by decide, by decide +kernel, by decide⟩
theorem fl_String_9 : Cond.fieldLink R_String 9 "java/lang/String" "value" "[B" ∈ TB := tb6 57 (by decide +kernel) (by decide +kernel)
theorem fl_String_15 : Cond.fieldLink R_String 15 "java/lang/String" "coder" "B" ∈ TB := tb6 58 (by decide +kernel) (by decide +kernel)
theorem fl_String_38 : Cond.fieldLink R_String 38 "java/lang/String" "COMPACT_STRINGS" "Z" ∈ TB := tb3 213 (by decide +kernel) (by decide +kernel)
theorem fl_String_1053 : Cond.fieldLink R_String 1053 "jdk/internal/util/Preconditions" "SIOOBE_FORMATTER" "Ljava/util/function/BiFunction;" ∈ TB := tb3 229 (by decide +kernel) (by decide +kernel)
/-- the char at a place of a text -/
def sCh (k j : Nat) : Int32 := ((bytK.getD k []).getD j 0 &&& 255)
theorem sc_all : ∀ k, k < 12 → (lenK.getD k 0 = (bytK.getD k []).length ∧ ∀ j, j < lenK.getD k 0 → ((sCh k j).toUInt32 % 65536).toInt32 = sCh k j ∧ narrow .char (.int (sCh k j)) = .int (sCh k j)) := by decide +kernel
section STR
variable {x : Cx} {g : Gv} {cc : ByteArray} {own : String} {nL d pc : Nat} {ret : Option FieldType} {ρ : Option Value × Sg} {L L' : List (Nat × Value)} {st : List Value} {σ : Sg}
theorem z_static1 (hc : Zc x g cc R_String nL ret d) (hd : decode cc pc = .ok (.getstatic 38, 3)) (k : Z x g nL ρ (pc + 3) L (.int 1 :: st) σ) : Z x g nL ρ pc L st σ := by
  obtain ⟨p, l, e, R, s, m, args, below, meth, c⟩ := x
  intro H locs ls hP hS h
  obtain ⟨hx, hb, hr, hml, hown, hts, hlk, hR, hK, hI, hE, hT⟩ := hc
  exact va_gets hx hb hE.2.1 hS hown (hts _ fl_String_38) (fun _ z => z) hd (k H locs ls hP hS h)
theorem z_static2 (hc : Zc x g cc R_String nL ret d) (hd : decode cc pc = .ok (.getstatic 1053, 3)) (k : ∀ v : Value, (v = .null ∨ ∃ t, v = .ref t) → Z x g nL ρ (pc + 3) L (v :: st) σ) : Z x g nL ρ pc L st σ := by
  obtain ⟨p, l, e, R, s, m, args, below, meth, c⟩ := x
  intro H locs ls hP hS h
  obtain ⟨hx, hb, hr, hml, hown, hts, hlk, hR, hK, hI, hE, hT⟩ := hc
  rcases hE.2.2 with q | ⟨t, q⟩
  · exact va_gets hx hb q hS hown (hts _ fl_String_1053) (fun _ z => z) hd (k .null (Or.inl rfl) H locs ls hP hS h)
  · exact va_gets hx hb q hS hown (hts _ fl_String_1053) (fun _ z => z) hd (k (.ref t) (Or.inr ⟨t, rfl⟩) H locs ls hP hS h)
theorem z_coder {i : Nat} (hi : i < 12) (hc : Zc x g cc R_String nL ret d) (hd : decode cc pc = .ok (.getfield 15, 3)) (k : Z x g nL ρ (pc + 3) L (.int 0 :: st) σ) : Z x g nL ρ pc L (.ref (g.2.2.2.1 i) :: st) σ := by
  obtain ⟨p, l, e, R, s, m, args, below, meth, c⟩ := x
  intro H locs ls hP hS h
  obtain ⟨hx, hb, hr, hml, hown, hts, hlk, hR, hK, hI, hE, hT⟩ := hc
  exact vk_getf hx hb (hE.1.1 i hi).2.1 hS hown (hts _ fl_String_15) (fun _ z => z) hd (k H locs ls hP hS h)
theorem z_value {i : Nat} (hi : i < 12) (hc : Zc x g cc R_String nL ret d) (hd : decode cc pc = .ok (.getfield 9, 3)) (k : Z x g nL ρ (pc + 3) L (.ref (g.2.2.2.2 i) :: st) σ) : Z x g nL ρ pc L (.ref (g.2.2.2.1 i) :: st) σ := by
  obtain ⟨p, l, e, R, s, m, args, below, meth, c⟩ := x
  intro H locs ls hP hS h
  obtain ⟨hx, hb, hr, hml, hown, hts, hlk, hR, hK, hI, hE, hT⟩ := hc
  exact vk_getf hx hb (hE.1.1 i hi).2.2.1 hS hown (hts _ fl_String_9) (fun _ z => z) hd (k H locs ls hP hS h)
theorem z_vlen {i : Nat} (hi : i < 12) (hc : Zc x g cc own nL ret d) (hd : decode cc pc = .ok (.arraylength, 1)) (k : Z x g nL ρ (pc + 1) L (.int (nI (lenK.getD i 0)) :: st) σ) : Z x g nL ρ pc L (.ref (g.2.2.2.2 i) :: st) σ := by
  obtain ⟨p, l, e, R, s, m, args, below, meth, c⟩ := x
  intro H locs ls hP hS h
  obtain ⟨hx, hb, hr, hml, hown, hts, hlk, hR, hK, hI, hE, hT⟩ := hc
  exact va_tlen hx hb (hE.1.1 i hi).2.2.2 hS rfl hd (k H locs ls hP hS h)
theorem z_vbyte {i j : Nat} {q : Int32} (hi : i < 12) (hc : Zc x g cc own nL ret d) (hd : decode cc pc = .ok (.baload, 1)) (hj : rd q (lenK.getD i 0) = some j) (k : Z x g nL ρ (pc + 1) L (.int ((bytK.getD i []).getD j 0) :: st) σ) : Z x g nL ρ pc L (.int q :: .ref (g.2.2.2.2 i) :: st) σ := by
  obtain ⟨p, l, e, R, s, m, args, below, meth, c⟩ := x
  intro H locs ls hP hS h
  obtain ⟨hx, hb, hr, hml, hown, hts, hlk, hR, hK, hI, hE, hT⟩ := hc
  refine va_tb hx hb (hE.1.1 i hi).2.2.2 hS (rd_in hj) rfl hd ?_
  rw [rd_eq hj]
  exact k H locs ls hP hS h
/-- a call on a text -/
theorem z_callT {y : MethodName} {cc' : ByteArray} {nL' d' n idx i : Nat} {ret' : Option FieldType} {st0 st1 As : List Value} {rv : Option Value} {σ1 : Sg} (hi : i < 12) (hc : Zc x g cc own nL ret d) (hd : decode cc pc = .ok (.invokevirtual idx, 3)) (hv : VL own idx y cc' nL' ret' n) (hy : y.cls = "java/lang/String") (hdd : d' + 1 ≤ d) (ho : Ok g y cc' nL' ret' d' (.ref (g.2.2.2.1 i) :: As) σ (rv, σ1)) (hn : As.length = n) (hs0 : st0 = As.reverse ++ .ref (g.2.2.2.1 i) :: st) (hst : (st.map (fun v => v.category)).sum ≤ 8) (hs1 : rv.toList ++ st = st1) (k : Z x g nL ρ (pc + 3) L st1 σ1) : Z x g nL ρ pc L st0 σ := by
  obtain ⟨p, l, e, R, s, m, args, below, meth, c⟩ := x
  intro H locs ls hP hS h
  obtain ⟨hx, hb, hr, hml, hown, hts, hlk, hR, hK, hI, hE, hT⟩ := hc
  subst hs1
  exact w_callV (d := d) hx hb hml hown hts (by rw [hR]; exact Nat.le_refl _) (by rw [hR]; exact Nat.le_refl _) (Nat.zero_le _) (Nat.zero_le _) hK hI (z_hE hE hS) hT hP hS (fun _ z => AsG.mono hS.1 z) hd hv hdd ho (by rw [hy]; exact vk_recv hE.1 hi hS) hn hs0 hst h.1 (fun H1 locs1 hP1 _ _ hS1 => k H1 locs1 ls hP1 hS1 h)
/-- a reference that may be null, in a local -/
theorem z_astoreV {n : Fin 4} {v : Value} (hv : v = .null ∨ ∃ q, v = .ref q) (hc : Zc x g cc own nL ret d) (hd : decode cc pc = .ok (.astore_n n, 1)) (hn : (n : Nat) < nL) (hL : ((n : Nat), v) :: L.filter (fun q => !(q.1 == (n : Nat)) && !(q.1 + 1 == (n : Nat) && q.2.category == 2)) = L') (k : Z x g nL ρ (pc + 1) L' st σ) : Z x g nL ρ pc L (v :: st) σ := by
  rcases hv with rfl | ⟨q, rfl⟩
  · obtain ⟨p, l, e, R, s, m, args, below, meth, c⟩ := x
    intro H locs ls hP hS h
    exact lv_astore_nN hc.1 hc.2.1 hd rfl h hn hL (fun ls h => k H locs ls hP hS h)
  · exact z_astore_n hc hd hn hL k
theorem z_aload_nN {n : Fin 4} (hc : Zc x g cc own nL ret d) (hd : decode cc pc = .ok (.aload_n n, 1)) (j : Nat) (hL : L[j]? = some ((n : Nat), .null)) (k : Z x g nL ρ (pc + 1) L (.null :: st) σ) : Z x g nL ρ pc L st σ := by
  obtain ⟨p, l, e, R, s, m, args, below, meth, c⟩ := x
  intro H locs ls hP hS h
  exact lv_aload_nN hc.1 hc.2.1 hd rfl (lv_at h j hL) (k H locs ls hP hS h)
theorem z_ifnull {q : Nat} {off : Int} (hc : Zc x g cc own nL ret d) (hd : decode cc pc = .ok (.ifnull off, 3)) (k : Z x g nL ρ (pc + 3) L st σ) : Z x g nL ρ pc L (.ref q :: st) σ := by
  obtain ⟨p, l, e, R, s, m, args, below, meth, c⟩ := x
  intro H locs ls hP hS h
  exact lv_ifnull hc.1 hc.2.1 hd (k H locs ls hP hS h)
theorem z_ifnullN {off : Int} {tgt : Nat} (hc : Zc x g cc own nL ret d) (hd : decode cc pc = .ok (.ifnull off, 3)) (ht : (pc : Int) + off = (tgt : Int)) (k : Z x g nL ρ tgt L st σ) : Z x g nL ρ pc L (.null :: st) σ := by
  obtain ⟨p, l, e, R, s, m, args, below, meth, c⟩ := x
  intro H locs ls hP hS h
  exact lv_ifnullN hc.1 hc.2.1 hd ht (k H locs ls hP hS h)
theorem z_aload_nV {n : Fin 4} {v : Value} (hv : v = .null ∨ ∃ q, v = .ref q) (hc : Zc x g cc own nL ret d) (hd : decode cc pc = .ok (.aload_n n, 1)) (j : Nat) (hL : L[j]? = some ((n : Nat), v)) (k : Z x g nL ρ (pc + 1) L (v :: st) σ) : Z x g nL ρ pc L st σ := by
  rcases hv with rfl | ⟨q, rfl⟩
  · exact z_aload_nN hc hd j hL k
  · exact z_aload_n hc hd j hL k
end STR
theorem ok_Pre (g : Gv) (i n : Int32) (v : Value) (hv : v = .null ∨ ∃ q, v = .ref q) (σ : Sg) (h1 : ¬ i < 0) (h2 : i < n) : Ok g y_Preconditions_checkIndex_8e157 c_Preconditions_checkIndex_8e157 3 (some .int) 0 [.int i, .int n, v] σ (some (.int i), σ) := by
  have hcat : v.category = 1 := by rcases hv with rfl | ⟨q, rfl⟩ <;> rfl
  refine Ok.of [(0, .int i), (1, .int n), (2, v)] (by decide) (by rcases hv with rfl | ⟨q, rfl⟩ <;> exact Nat.le_of_ble_eq_true rfl) (by rcases hv with rfl | ⟨q, rfl⟩ <;> rfl) ?_
  intro x hc
  have hc : Zc x g c_Preconditions_checkIndex_8e157 R_Preconditions 3 (some .int) 0 := hc
  refine z_iload_n hc d_Preconditions_checkIndex_8e157_0 0 rfl ?_
  refine z_if_lt (tgt := 9) hc d_Preconditions_checkIndex_8e157_1 (by decide) (fun hq => absurd hq h1) (fun _ => ?_)
  refine z_iload_n hc d_Preconditions_checkIndex_8e157_4 0 rfl ?_
  refine z_iload_n hc d_Preconditions_checkIndex_8e157_5 1 rfl ?_
  refine z_icmp_lt (tgt := 16) hc d_Preconditions_checkIndex_8e157_6 (by decide) (fun _ => ?_) (fun hq => absurd h2 hq)
  refine z_iload_n hc d_Preconditions_checkIndex_8e157_16 0 rfl ?_
  exact z_iret hc d_Preconditions_checkIndex_8e157_17 rfl
theorem ok_Chk (g : Gv) (i n : Int32) (σ : Sg) (h1 : ¬ i < 0) (h2 : i < n) : Ok g y_String_checkIndex_df160 c_String_checkIndex_df160 2 none 1 [.int i, .int n] σ (none, σ) := by
  refine Ok.of [(0, .int i), (1, .int n)] (by decide) (Nat.le_of_ble_eq_true rfl) rfl ?_
  intro x hc
  have hc : Zc x g c_String_checkIndex_df160 R_String 2 none 1 := hc
  refine z_iload_n hc d_String_checkIndex_df160_0 0 rfl ?_
  refine z_iload_n hc d_String_checkIndex_df160_1 1 rfl ?_
  refine z_static2 hc d_String_checkIndex_df160_2 (fun v hv => ?_)
  refine z_callS (As := [.int i, .int n, v]) hc d_String_checkIndex_df160_5 vl_String_1059 (by decide) (ok_Pre g i n v hv σ h1 h2) rfl rfl (Nat.le_of_ble_eq_true rfl) rfl ?_
  refine z_pop hc d_String_checkIndex_df160_8 rfl ?_
  exact z_vret hc d_String_checkIndex_df160_9 rfl
theorem ok_Lch (g : Gv) (i j : Nat) (q : Int32) (σ : Sg) (hi : i < 12) (hj : rd q (lenK.getD i 0) = some j) : Ok g y_StringLatin1_charAt_3b067 c_StringLatin1_charAt_3b067 2 (some .char) 2 [.ref (g.2.2.2.2 i), .int q] σ (some (.int (sCh i j)), σ) := by
  obtain ⟨e1, e2⟩ := (sc_all i hi).2 j (rd_lt hj)
  have hq0 : ¬ q < 0 := fun z => rd_in hj (Or.inl z)
  have hl : lenK.getD i 0 ≤ 6 := by
    match i, hi with
    | 0, _ => decide
    | 1, _ => decide
    | 2, _ => decide
    | 3, _ => decide
    | 4, _ => decide
    | 5, _ => decide
    | 6, _ => decide
    | 7, _ => decide
    | 8, _ => decide
    | 9, _ => decide
    | 10, _ => decide
    | 11, _ => decide
  have hqn : q < nI (lenK.getD i 0) := by
    have h3 := rd_lt hj
    have h4 := rd_eq hj
    obtain ⟨n, hn, rfl⟩ := nI_of hq0
    rw [nI_clamp (by omega)] at h4
    exact nI_lt (by omega) (by omega)
  refine Ok.of [(0, .ref (g.2.2.2.2 i)), (1, .int q)] (by decide) (Nat.le_of_ble_eq_true rfl) rfl ?_
  intro x hc
  have hc : Zc x g c_StringLatin1_charAt_3b067 R_StringLatin1 2 (some .char) 2 := hc
  refine z_iload_n hc d_StringLatin1_charAt_3b067_0 1 rfl ?_
  refine z_aload_n hc d_StringLatin1_charAt_3b067_1 0 rfl ?_
  refine z_vlen hi hc d_StringLatin1_charAt_3b067_2 ?_
  refine z_callS (As := [.int q, .int (nI (lenK.getD i 0))]) hc d_StringLatin1_charAt_3b067_3 vl_Latin_9 (by decide) (ok_Chk g q (nI (lenK.getD i 0)) σ hq0 hqn) rfl rfl (Nat.le_of_ble_eq_true rfl) rfl ?_
  refine z_aload_n hc d_StringLatin1_charAt_3b067_6 0 rfl ?_
  refine z_iload_n hc d_StringLatin1_charAt_3b067_7 1 rfl ?_
  refine z_vbyte hi hc d_StringLatin1_charAt_3b067_8 hj ?_
  refine z_sipush (v := 255) hc d_StringLatin1_charAt_3b067_9 (by decide) ?_
  refine z_iand hc d_StringLatin1_charAt_3b067_12 ?_
  refine z_i2c hc d_StringLatin1_charAt_3b067_13 ?_
  have e3 : (((bytK.getD i []).getD j 0 &&& 255).toUInt32 % 65536).toInt32 = sCh i j := e1
  rw [e3]
  exact z_zret hc d_StringLatin1_charAt_3b067_14 e2 rfl
theorem ok_Cod (g : Gv) (i : Nat) (σ : Sg) (hi : i < 12) : Ok g y_String_coder_7d493 c_String_coder_7d493 1 (some .byte) 0 [.ref (g.2.2.2.1 i)] σ (some (.int 0), σ) := by
  refine Ok.of [(0, .ref (g.2.2.2.1 i))] (by decide) (Nat.le_of_ble_eq_true rfl) rfl ?_
  intro x hc
  have hc : Zc x g c_String_coder_7d493 R_String 1 (some .byte) 0 := hc
  refine z_static1 hc d_String_coder_7d493_0 ?_
  refine z_if_eq (tgt := 13) hc d_String_coder_7d493_3 (by decide) (fun hq => absurd hq (by decide)) (fun _ => ?_)
  refine z_aload_n hc d_String_coder_7d493_6 0 rfl ?_
  refine z_coder hi hc d_String_coder_7d493_7 ?_
  refine z_goto (tgt := 14) hc d_String_coder_7d493_10 (by decide) ?_
  exact z_zret hc d_String_coder_7d493_14 (by decide) rfl
theorem ok_Lat (g : Gv) (i : Nat) (σ : Sg) (hi : i < 12) : Ok g y_String_isLatin1_aae02 c_String_isLatin1_aae02 1 (some .boolean) 0 [.ref (g.2.2.2.1 i)] σ (some (.int 1), σ) := by
  refine Ok.of [(0, .ref (g.2.2.2.1 i))] (by decide) (Nat.le_of_ble_eq_true rfl) rfl ?_
  intro x hc
  have hc : Zc x g c_String_isLatin1_aae02 R_String 1 (some .boolean) 0 := hc
  refine z_static1 hc d_String_isLatin1_aae02_0 ?_
  refine z_if_eq (tgt := 17) hc d_String_isLatin1_aae02_3 (by decide) (fun hq => absurd hq (by decide)) (fun _ => ?_)
  refine z_aload_n hc d_String_isLatin1_aae02_6 0 rfl ?_
  refine z_coder hi hc d_String_isLatin1_aae02_7 ?_
  refine z_if_ne (tgt := 17) hc d_String_isLatin1_aae02_10 (by decide) (fun hq => absurd rfl hq) (fun _ => ?_)
  refine z_iconst (v := 1) hc d_String_isLatin1_aae02_13 (by decide) ?_
  refine z_goto (tgt := 18) hc d_String_isLatin1_aae02_14 (by decide) ?_
  exact z_zret hc d_String_isLatin1_aae02_18 (by decide) rfl
theorem shr0 : ∀ n, n < 12 → nI (lenK.getD n 0) >>> ((0 : Int32) &&& 31) = nI (lenK.getD n 0) := by decide +kernel
theorem ok_Len (g : Gv) (i : Nat) (σ : Sg) (hi : i < 12) : Ok g y_String_length_8abf5 c_String_length_8abf5 1 (some .int) 1 [.ref (g.2.2.2.1 i)] σ (some (.int (nI (lenK.getD i 0))), σ) := by
  refine Ok.of [(0, .ref (g.2.2.2.1 i))] (by decide) (Nat.le_of_ble_eq_true rfl) rfl ?_
  intro x hc
  have hc : Zc x g c_String_length_8abf5 R_String 1 (some .int) 1 := hc
  refine z_aload_n hc d_String_length_8abf5_0 0 rfl ?_
  refine z_value hi hc d_String_length_8abf5_1 ?_
  refine z_vlen hi hc d_String_length_8abf5_4 ?_
  refine z_aload_n hc d_String_length_8abf5_5 0 rfl ?_
  refine z_callT (As := []) hi hc d_String_length_8abf5_6 vl_String_335 rfl (by decide) (ok_Cod g i σ hi) rfl rfl (Nat.le_of_ble_eq_true rfl) rfl ?_
  refine z_ishr hc d_String_length_8abf5_9 ?_
  rw [shr0 i hi]
  exact z_iret hc d_String_length_8abf5_10 rfl
theorem ok_Cha (g : Gv) (i j : Nat) (q : Int32) (σ : Sg) (hi : i < 12) (hj : rd q (lenK.getD i 0) = some j) : Ok g y_String_charAt_5068e c_String_charAt_5068e 2 (some .char) 3 [.ref (g.2.2.2.1 i), .int q] σ (some (.int (sCh i j)), σ) := by
  refine Ok.of [(0, .ref (g.2.2.2.1 i)), (1, .int q)] (by decide) (Nat.le_of_ble_eq_true rfl) rfl ?_
  intro x hc
  have hc : Zc x g c_String_charAt_5068e R_String 2 (some .char) 3 := hc
  refine z_aload_n hc d_String_charAt_5068e_0 0 rfl ?_
  refine z_callT (As := []) hi hc d_String_charAt_5068e_1 vl_String_492 rfl (by decide) (ok_Lat g i σ hi) rfl rfl (Nat.le_of_ble_eq_true rfl) rfl ?_
  refine z_if_eq (tgt := 16) hc d_String_charAt_5068e_4 (by decide) (fun hq => absurd hq (by decide)) (fun _ => ?_)
  refine z_aload_n hc d_String_charAt_5068e_7 0 rfl ?_
  refine z_value hi hc d_String_charAt_5068e_8 ?_
  refine z_iload_n hc d_String_charAt_5068e_11 1 rfl ?_
  refine z_callS (As := [.ref (g.2.2.2.2 i), .int q]) hc d_String_charAt_5068e_12 vl_String_495 (by decide) (ok_Lch g i j q σ hi hj) rfl rfl (Nat.le_of_ble_eq_true rfl) rfl ?_
  exact z_zret hc d_String_charAt_5068e_15 ((sc_all i hi).2 j (rd_lt hj)).2 rfl
section STR2
variable {x : Cx} {g : Gv} {cc : ByteArray} {own : String} {nL d pc idx : Nat} {ret : Option FieldType} {ρ : Option Value × Sg} {L L' : List (Nat × Value)} {st : List Value} {σ : Sg}
theorem sz_len {i : Nat} (hc : Zc x g cc own nL ret d) (hd : decode cc pc = .ok (.invokevirtual idx, 3)) (hv : VL own idx y_String_length_8abf5 c_String_length_8abf5 1 (some .int) 0) (hdd : 2 ≤ d) (hi : i < 12) (hst : (st.map (fun v => v.category)).sum ≤ 8) (k : Z x g nL ρ (pc + 3) L (.int (nI (lenK.getD i 0)) :: st) σ) : Z x g nL ρ pc L (.ref (g.2.2.2.1 i) :: st) σ :=
  z_callT (As := []) hi hc hd hv rfl hdd (ok_Len g i σ hi) rfl rfl hst rfl k
theorem sz_chr {i j : Nat} {q : Int32} (hc : Zc x g cc own nL ret d) (hd : decode cc pc = .ok (.invokevirtual idx, 3)) (hv : VL own idx y_String_charAt_5068e c_String_charAt_5068e 2 (some .char) 1) (hdd : 4 ≤ d) (hi : i < 12) (hj : rd q (lenK.getD i 0) = some j) (hst : (st.map (fun v => v.category)).sum ≤ 8) (k : Z x g nL ρ (pc + 3) L (.int (sCh i j) :: st) σ) : Z x g nL ρ pc L (.int q :: .ref (g.2.2.2.1 i) :: st) σ :=
  z_callT (As := [.int q]) hi hc hd hv rfl hdd (ok_Cha g i j q σ hi hj) rfl rfl hst rfl k
end STR2
theorem gf_Kind_17 {x : Cx} {g : Gv} {cc : ByteArray} {nL d pc : Nat} {ret : Option FieldType} {ρ : Option Value × Sg} {L : List (Nat × Value)} {st : List Value} {σ : Sg} (hc : Zc x g cc R_Kind nL ret d) (hd : decode cc pc = .ok (.getfield 17, 3)) {w : Nat} (hv : w < 6) (k : Z x g nL ρ (pc + 3) L (kAbove g w :: st) σ) : Z x g nL ρ pc L (.ref (gAd g (5, w, 0)) :: st) σ := by
  match w, hv with
  | 0, _ => exact z_get (ci := 0) hc hd in_Kind rfl 2 (by decide) (tb1 41 (by decide +kernel) (by decide +kernel)) (5, 0, 0) (dm_Kind (by decide)) rfl rfl k
  | 1, _ => exact z_get (ci := 3) hc hd in_Runner rfl 2 (by decide) (tb1 41 (by decide +kernel) (by decide +kernel)) (5, 1, 0) (dm_Kind (by decide)) rfl rfl k
  | 2, _ => exact z_get (ci := 8) hc hd in_Velvet rfl 2 (by decide) (tb1 41 (by decide +kernel) (by decide +kernel)) (5, 2, 0) (dm_Kind (by decide)) rfl rfl k
  | 3, _ => exact z_get (ci := 1) hc hd in_Mat rfl 2 (by decide) (tb1 41 (by decide +kernel) (by decide +kernel)) (5, 3, 0) (dm_Kind (by decide)) rfl rfl k
  | 4, _ => exact z_get (ci := 6) hc hd in_Stair rfl 2 (by decide) (tb1 41 (by decide +kernel) (by decide +kernel)) (5, 4, 0) (dm_Kind (by decide)) rfl rfl k
  | 5, _ => exact z_get (ci := 4) hc hd in_Shag rfl 2 (by decide) (tb1 41 (by decide +kernel) (by decide +kernel)) (5, 5, 0) (dm_Kind (by decide)) rfl rfl k
/-- whether the kind k, or one above, is of that number -/
def isU (k : Nat) (v : Int32) : Bool := match k with
  | 0 => decide (0 = v)
  | 1 => decide (1 = v) || decide (0 = v)
  | 2 => decide (2 = v) || decide (0 = v)
  | 3 => decide (3 = v) || decide (0 = v)
  | 4 => decide (4 = v) || (decide (1 = v) || decide (0 = v))
  | _ => decide (5 = v) || (decide (2 = v) || decide (0 = v))
def f_Kind_isOrIsUnder (w0 : Nat) (x1 : Int32) (σ : Sg) : Option (Int32 × Sg) := some (if isU w0 x1 = true then 1 else 0, σ)
section IU
variable {x : Cx} {g : Gv} {ρ : Option Value × Sg} {σ : Sg} {v : Int32}
theorem iu_null (hc : Zc x g c_Kind_isOrIsUnder R_Kind 3 (some .boolean) 0) (hρ : ρ = (some (.int 0), σ)) : Z x g 3 ρ 2 [(2, .null), (1, .int v)] [] σ := by
  refine z_aload_nN hc d_Kind_isOrIsUnder_2 0 rfl ?_
  refine z_ifnullN (tgt := 24) hc d_Kind_isOrIsUnder_3 (by decide) ?_
  refine z_iconst (v := 0) hc d_Kind_isOrIsUnder_24 (by decide) ?_
  exact z_zret hc d_Kind_isOrIsUnder_25 (by decide) hρ
theorem iu_go (hc : Zc x g c_Kind_isOrIsUnder R_Kind 3 (some .boolean) 0) {k : Nat} (hk : k < 6) (h1 : nI k = v → ρ = (some (.int 1), σ)) (h2 : ¬ nI k = v → Z x g 3 ρ 2 [(2, kAbove g k), (1, .int v)] [] σ) : Z x g 3 ρ 2 [(2, .ref (gAd g (5, k, 0))), (1, .int v)] [] σ := by
  have hA : kAbove g k = .null ∨ ∃ q, kAbove g k = .ref q := by
    match k, hk with
    | 0, _ => exact Or.inl rfl
    | 1, _ => exact Or.inr ⟨_, rfl⟩
    | 2, _ => exact Or.inr ⟨_, rfl⟩
    | 3, _ => exact Or.inr ⟨_, rfl⟩
    | 4, _ => exact Or.inr ⟨_, rfl⟩
    | 5, _ => exact Or.inr ⟨_, rfl⟩
  refine z_aload_n hc d_Kind_isOrIsUnder_2 0 rfl ?_
  refine z_ifnull hc d_Kind_isOrIsUnder_3 ?_
  refine z_aload_n hc d_Kind_isOrIsUnder_6 0 rfl ?_
  refine gf_Kind_7 hc d_Kind_isOrIsUnder_7 hk ?_
  refine z_iload_n hc d_Kind_isOrIsUnder_10 1 rfl ?_
  refine z_icmp_ne (tgt := 16) hc d_Kind_isOrIsUnder_11 (by decide) (fun hq => ?_) (fun hq => ?_)
  · refine z_aload_n hc d_Kind_isOrIsUnder_16 0 rfl ?_
    refine gf_Kind_17 hc d_Kind_isOrIsUnder_17 hk ?_
    refine z_astoreV (L' := [(2, kAbove g k), (1, .int v)]) hA hc d_Kind_isOrIsUnder_20 (by decide) rfl ?_
    refine z_goto (tgt := 2) hc d_Kind_isOrIsUnder_21 (by decide) ?_
    exact h2 hq
  · refine z_iconst (v := 1) hc d_Kind_isOrIsUnder_14 (by decide) ?_
    exact z_zret hc d_Kind_isOrIsUnder_15 (by decide) (h1 hq)
end IU
theorem ok_Kind_isOrIsUnder (g : Gv) (w0 : Nat) (x1 : Int32) (hv0 : w0 < 6) (σ : Sg) (r : Int32 × Sg) (hf : f_Kind_isOrIsUnder w0 x1 σ = some r) : Ok g y_Kind_isOrIsUnder c_Kind_isOrIsUnder 3 (some .boolean) 0 [.ref (gAd g (5, w0, 0)), .int x1] σ (some (.int r.1), r.2) := by
  unfold f_Kind_isOrIsUnder at hf
  refine Ok.of [(0, .ref (gAd g (5, w0, 0))), (1, .int x1)] (by decide) (Nat.le_of_ble_eq_true rfl) rfl ?_
  intro x hc
  have hc : Zc x g c_Kind_isOrIsUnder R_Kind 3 (some .boolean) 0 := hc
  have hr := Option.some.inj hf
  subst hr
  refine z_aload_n hc d_Kind_isOrIsUnder_0 0 rfl ?_
  refine z_astore_n (L' := [(2, .ref (gAd g (5, w0, 0))), (0, .ref (gAd g (5, w0, 0))), (1, .int x1)]) hc d_Kind_isOrIsUnder_1 (by decide) rfl ?_
  refine z_sub [0, 2] (L' := [(2, .ref (gAd g (5, w0, 0))), (1, .int x1)]) rfl ?_
  have k0 : ∀ ρ : Option Value × Sg, ρ = (some (.int (if isU 0 x1 = true then 1 else 0)), σ) → Z x g 3 ρ 2 [(2, .ref (gAd g (5, 0, 0))), (1, .int x1)] [] σ := by
    intro ρ hρ
    refine iu_go hc (by decide) (fun q => ?_) (fun q => iu_null hc ?_)
    · have q : (0 : Int32) = x1 := q
      rw [hρ]; simp [isU, q]
    · have q : ¬ (0 : Int32) = x1 := q
      rw [hρ]; simp [isU, q]
  have k1 : ∀ ρ : Option Value × Sg, ρ = (some (.int (if isU 1 x1 = true then 1 else 0)), σ) → Z x g 3 ρ 2 [(2, .ref (gAd g (5, 1, 0))), (1, .int x1)] [] σ := by
    intro ρ hρ
    refine iu_go hc (by decide) (fun q => ?_) (fun q => k0 _ ?_)
    · have q : (1 : Int32) = x1 := q
      rw [hρ]; simp [isU, q]
    · have q : ¬ (1 : Int32) = x1 := q
      rw [hρ]; simp [isU, q]
  have k2 : ∀ ρ : Option Value × Sg, ρ = (some (.int (if isU 2 x1 = true then 1 else 0)), σ) → Z x g 3 ρ 2 [(2, .ref (gAd g (5, 2, 0))), (1, .int x1)] [] σ := by
    intro ρ hρ
    refine iu_go hc (by decide) (fun q => ?_) (fun q => k0 _ ?_)
    · have q : (2 : Int32) = x1 := q
      rw [hρ]; simp [isU, q]
    · have q : ¬ (2 : Int32) = x1 := q
      rw [hρ]; simp [isU, q]
  match w0, hv0 with
  | 0, _ => exact k0 _ rfl
  | 1, _ => exact k1 _ rfl
  | 2, _ => exact k2 _ rfl
  | 3, _ =>
    refine iu_go hc (by decide) (fun q => ?_) (fun q => k0 _ ?_)
    · have q : (3 : Int32) = x1 := q
      simp [isU, q]
    · have q : ¬ (3 : Int32) = x1 := q
      simp [isU, q]
  | 4, _ =>
    refine iu_go hc (by decide) (fun q => ?_) (fun q => k1 _ ?_)
    · have q : (4 : Int32) = x1 := q
      simp [isU, q]
    · have q : ¬ (4 : Int32) = x1 := q
      simp [isU, q]
  | 5, _ =>
    refine iu_go hc (by decide) (fun q => ?_) (fun q => k2 _ ?_)
    · have q : (5 : Int32) = x1 := q
      simp [isU, q]
    · have q : ¬ (5 : Int32) = x1 := q
      simp [isU, q]
theorem kcl (k : Nat) : ∃ (C : String) (T : u_T) (N : Nat), classes[kCi k]? = some (C, T, N) := by
  unfold kCi
  split <;> exact ⟨_, _, _, rfl⟩
/-- super.m(..) of a method that the superclass has from above: x is named, y is run -/
def PI (own : String) (idx : Nat) (x y : MethodName) (cc : ByteArray) (nL : Nat) (ret : Option FieldType) (n : Nat) : Prop :=
  Cond.methodLink own idx x ∈ TB ∧ Cond.sameMethod x.cls y.cls x.name x.desc ∈ TB ∧ Cond.superclass own x.cls ∈ TB ∧ Cond.superclass x.cls y.cls ∈ TB ∧ Cond.instanceMethod y ∈ TB ∧ Cond.initialized y.cls ∈ TB ∧ Cond.code y cc nL ret ∈ TB ∧ x.name ≠ "<init>" ∧ x.name = y.name ∧ x.desc = y.desc ∧ (parseMethodDescriptor y.desc).map (fun d => d.parameters.length) = some n ∧ nL ≤ 18
theorem w_callPI {p : Program} {l : Launch} {e : Env} {R : Room} {s : State} {m : MethodId} {args : Array Value} {below : List Frame} {meth : Method} {c : Code} {H : Heap} {locs : List Loc} {cells slots : Nat} {Q : State → Prop} {g : Gv} {cc cc' : ByteArray} {own : String} {nL nL' d d' n pc idx : Nat} {ret' : Option FieldType} {σ : Sg} {ρ : Option Value × Sg} {x y : MethodName} {As rest st0 : List Value} {ls : Array Slot} {A0 : Nat → Prop} {H0 : Heap} {b : Nat} {C : String} {cC : ClassId} (hat : ClassAt s C cC) (hx : p.tables.exec = Jvm.exec) (hb : c.code = cc) (hml : c.maxLocals = nL) (hown : s.vm.findClass own = some m.cls) (hts : ∀ w ∈ TB, w.before args s = true) (hF : d ≤ R.frames) (hLo : 37 * d ≤ R.locals) (hrc : cells ≤ R.cells) (hrs : slots ≤ R.slots) (hK : va_K g.1 classes (tysG g) s) (hI : Inj g) (hE : Ex g (AsG g H.size) s H) (hR : Sr g s) (hP : va_P g.1 classes (W0 g σ) H) (hS : va_S A0 H0 H locs) (hA : ∀ q, AsG g H.size q → A0 q)
    (hd : decode cc pc = .ok (.invokespecial idx, 3)) (hv : PI own idx x y cc' nL' ret' n) (hdd : d' + 1 ≤ d) (ho : Ok g y cc' nL' ret' d' (.ref b :: As) σ ρ) (hre : ∃ cell : Cell, H[b]? = some cell ∧ cell.vm.isStatics = false ∧ s.vm.findClass C = some cell.cls) (hn : As.length = n) (hs0 : st0 = As.reverse ++ .ref b :: rest) (hst : (rest.map (fun v => v.category)).sum ≤ 8) (hsz : ls.size = nL)
    (kk : ∀ (H1 : Heap) (locs1 : List Loc), va_P g.1 classes (W0 g ρ.2) H1 → H.size ≤ H1.size → (∀ q : Nat, q < H.size → ¬ AsG g H.size q → H1[q]? = H[q]?) → va_S A0 H0 H1 locs1 → W p l e R s m args below meth c H1 locs1 cells slots Q (F0 m (pc + 3) ls (ρ.1.toList ++ rest))) : W p l e R s m args below meth c H locs cells slots Q (F0 m pc ls st0) := by
  obtain ⟨v1, v2, v3, v3', v4, v5, v6, v8, v9, v10, v11, v12⟩ := hv
  refine w_back (rest := rest) (a := (Value.ref b :: As).toArray) ?_ hS hA kk
  intro T hT X
  obtain ⟨cellB, hcB, hoB, hclB⟩ := hre
  obtain ⟨hfc, kB, hkB, -⟩ := hat
  cases hfc.symm.trans hclB
  have hini := hts _ v5
  have hfit := rm_fit hdd v12 hF hLo
  have hBk : Back l R p e below s args y 3 8 (PreOf R 0 0 (va_Pc (.ref b :: As) (Pre g σ H.size))) (PostOf (Qz g ρ H.size) 0 0 (AsG g H.size)) := back_of (bytes := cc') (maxL := nL') (ret := ret') (ho l H.size) Pre.blind rfl rfl hfit.1 hfit.2 (pay_in hts (tb_good v6)) List.mem_cons_self (fun a' U hW => word_at hW (Or.inl (by first | rfl | simp [Cond.onTables, Cond.keeps, Cond.steady])) hini)
  obtain ⟨mk, methM, hnamed, hmethM, hstM, habM⟩ := Cond.instanceMethod_spec (hts _ v4)
  obtain ⟨methM', cM, hmethM', -, -, -, -, -, -, hsigM⟩ := Cond.code_spec hnamed (hts _ v6)
  cases hmethM.symm.trans hmethM'
  obtain ⟨ps, dk, kp, hps, hdk, hkp, hsuper, -, -, hnid⟩ := Cond.superclass_spec hown (hts _ v3)
  obtain ⟨ps2, dk2, kp2, hps2, hdk2, hkp2, hsuper2, -, -, hnid2⟩ := Cond.superclass_spec hps (hts _ v3')
  have hn1 : s.methodNamed? ⟨y.cls, x.name, x.desc⟩ = some mk := by rw [v9, v10]; exact hnamed
  have hpm : ps2 = mk.cls := Option.some.inj (hps2.symm.trans (findClass_of_methodNamed hnamed))
  have hsub : s.vm.isSubclass ps mk.cls = true := by
    rw [← hpm]
    have hlt : ps < s.vm.classes.size := (Array.getElem?_eq_some_iff.mp hdk2).1
    obtain ⟨n9, hn9⟩ := Nat.exists_eq_succ_of_ne_zero (show s.vm.classes.size ≠ 0 from fun z => by rw [z] at hlt; exact Nat.not_lt_zero _ hlt)
    simp [Vm.isSubclass, hn9, Vm.isSubclassAux, hdk2, hsuper2]
  have hlen : As.length = methM.sig.parameters.length := by
    rw [hsigM] at v11
    exact hn.trans (Option.some.inj v11).symm
  obtain ⟨vm₁, X₁, hstep₁⟩ := X.invokespecialUp hx hown (hts _ v1) (hts _ v2) hn1 hmethM hstM habM v8 hdk hnid hps hsuper hsub (a := b) (cell := cellB) (by rw [hT]; exact hcB)
    (fun z h => by rw [h] at hoB; cases hoB) hkB (g := F0 m pc ls st0) rfl (argsL := As) (rest := rest) hlen hs0 (by rw [hb]; exact hd)
  obtain ⟨v, B, X', hpost, hsteps⟩ := hBk m meth c ⟨T.setVm vm₁, locs, cells, slots⟩ { F0 m pc ls st0 with stack := rest } (.invokespecial idx) mk (Value.ref b :: As).toArray X₁ rfl (hsz.trans hml.symm) (by rw [hb]; exact hd) (lv_room hst) (X₁.named hnamed) ⟨hrc, hrs, w_pre (As := .ref b :: As) hP hK hI hE hR (T.setVm vm₁) hT X₁.warmed⟩
  obtain ⟨U', l2, c2, s2⟩ := B
  obtain ⟨g', mk', t, L, e1, e2, hq, h1, hL, h2, h3⟩ := hpost
  dsimp only [Pt.U, Pt.locs, Pt.cells, Pt.slots] at X' e1 e2 h1 h2 h3
  subst h1; subst h2; subst h3
  exact ⟨v, (T.setVm vm₁).calling g' mk' (Value.ref b :: As).toArray, t, U', L, hT, X', hL, e1, e2, hq, fun target h => hstep₁ _ (by rw [doInvoke_state]; exact hsteps.trans h)⟩
theorem z_callPI {x : Cx} {g : Gv} {cc cc' : ByteArray} {own : String} {nL nL' d d' n pc idx : Nat} {ret ret' : Option FieldType} {ρ : Option Value × Sg} {L : List (Nat × Value)} {st st0 st1 : List Value} {σ σ1 : Sg} {y0 y : MethodName} {As : List Value} {rv : Option Value} {C : String} {fs : List Value} {ci N : Nat} {T : u_T} (hc : Zc x g cc own nL ret d) (hd : decode cc pc = .ok (.invokespecial idx, 3)) (hv : PI own idx y0 y cc' nL' ret' n) (hdd : d' + 1 ≤ d) (a : Ad) (ha : a ∈ dom) (he : ent g σ a = .inr (ci, fs)) (hcl : classes[ci]? = some (C, T, N)) (ho : Ok g y cc' nL' ret' d' (.ref (gAd g a) :: As) σ (rv, σ1)) (hn : As.length = n) (hs0 : st0 = As.reverse ++ .ref (gAd g a) :: st) (hst : (st.map (fun v => v.category)).sum ≤ 8) (hs1 : rv.toList ++ st = st1) (k : Z x g nL ρ (pc + 3) L st1 σ1) : Z x g nL ρ pc L st0 σ := by
  obtain ⟨p, l, e, R, s, m, args, below, meth, c⟩ := x
  intro H locs ls hP hS h
  obtain ⟨hx, hb, hr, hml, hown, hts, hlk, hR, hK, hI, hE, hT⟩ := hc
  obtain ⟨q, hq, hw⟩ := z_place (g := g) (σ := σ) ha
  rw [he] at hw
  subst hs1
  exact w_callPI (d := d) (C := C) (hK.1 ci _ hcl).2 hx hb hml hown hts (by rw [hR]; exact Nat.le_refl _) (by rw [hR]; exact Nat.le_refl _) (Nat.zero_le _) (Nat.zero_le _) hK hI (z_hE hE hS) hT hP hS (fun _ z => AsG.mono hS.1 z) hd hv hdd ho (va_recv hK hP hcl hw) hn hs0 hst h.1 (fun H1 locs1 hP1 _ _ hS1 => k H1 locs1 ls hP1 hS1 h)
/-- a contract out of its walk, of a member that the machine has no entry for, in a class that has some -/
theorem Ok.ofF {g : Gv} {y : MethodName} {cc : ByteArray} {nL : Nat} {ret : Option FieldType} {d : Nat} {av : List Value} {σ : Sg} {ρ : Option Value × Sg} (L0 : List (Nat × Value)) (hy : plainFor y = true) (hn : (lg_sl av).length ≤ nL) (hL : lv_args 0 av = L0)
    (h : ∀ x : Cx, Zc x g cc y.cls nL ret d → Z x g nL ρ 0 L0 [] σ) : Ok g y cc nL ret d av σ ρ := by
  intro l sz
  refine va_MetF (cc := cc) (maxL := nL) (ret := ret) hy rfl ?_
  intro p e s m args below meth c s₁ B hml hv
  obtain ⟨rfl, hsz, hP, hK, hI, hE, hR⟩ := hv
  subst hsz
  have hts := atoms_spec (ws := .code y cc nL ret :: TB) B.pre
  have hown : s.vm.findClass y.cls = some m.cls := findClass_of_methodNamed B.named
  have hl := lv_entry av (n := nL) hn
  rw [hL] at hl
  rw [lg_entry_eq]
  exact h (p, l, e, (headSpec (.code y cc nL ret :: TB) (rmD d)).room, s, m, av.toArray, below, meth, c) ⟨B.exec, B.bytes, B.returns, hml, hown, fun w hw => hts w (List.mem_cons_of_mem _ hw), B.notSynchronized, rfl, hK, hI, hE, hR⟩ s.heap [] _ hP va_S.rf hl
