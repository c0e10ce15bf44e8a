theorem ck_J0_335 : CKV RJ0 335 yJ0_coder_7d493 cJ0_coder_7d493 1 (some .byte) 0 := ⟨(tb_m 347 (by decide +kernel)), (tb_m 350 (by decide +kernel)), (tb_m 64 (by decide +kernel)), (tb_m 348 (by decide +kernel)), (tb_m 349 (by decide +kernel)), by decide +kernel, by decide +kernel, by decide +kernel⟩
theorem ck_J0_492 : CKV RJ0 492 yJ0_isLatin1_aae02 cJ0_isLatin1_aae02 1 (some .boolean) 0 := ⟨(tb_m 357 (by decide +kernel)), (tb_m 360 (by decide +kernel)), (tb_m 64 (by decide +kernel)), (tb_m 358 (by decide +kernel)), (tb_m 359 (by decide +kernel)), by decide +kernel, by decide +kernel, by decide +kernel⟩
theorem ck_J0_495 : CKS RJ0 495 yJ1_charAt_3b067 cJ1_charAt_3b067 2 (some .char) 2 := ⟨(tb_m 361 (by decide +kernel)), (tb_m 363 (by decide +kernel)), (tb_m 65 (by decide +kernel)), (tb_m 362 (by decide +kernel)), by decide +kernel, by decide +kernel, by decide +kernel⟩
theorem ck_J0_1059 : CKS RJ0 1059 yJ3_checkIndex_8e157 cJ3_checkIndex_8e157 3 (some .int) 3 := ⟨(tb_m 369 (by decide +kernel)), (tb_m 371 (by decide +kernel)), (tb_m 66 (by decide +kernel)), (tb_m 370 (by decide +kernel)), by decide +kernel, by decide +kernel, by decide +kernel⟩
theorem ck_J1_9 : CKS RJ1 9 yJ0_checkIndex_df160 cJ0_checkIndex_df160 2 none 2 := ⟨(tb_m 364 (by decide +kernel)), (tb_m 366 (by decide +kernel)), (tb_m 64 (by decide +kernel)), (tb_m 365 (by decide +kernel)), by decide +kernel, by decide +kernel, by decide +kernel⟩
theorem ck_X3_92 : CKV RX3 92 yJ0_length_8abf5 cJ0_length_8abf5 1 (some .int) 0 := ⟨(tb_m 343 (by decide +kernel)), (tb_m 346 (by decide +kernel)), (tb_m 64 (by decide +kernel)), (tb_m 344 (by decide +kernel)), (tb_m 345 (by decide +kernel)), by decide +kernel, by decide +kernel, by decide +kernel⟩
theorem ck_X3_97 : CKV RX3 97 yJ0_charAt_5068e cJ0_charAt_5068e 2 (some .char) 1 := ⟨(tb_m 353 (by decide +kernel)), (tb_m 356 (by decide +kernel)), (tb_m 64 (by decide +kernel)), (tb_m 354 (by decide +kernel)), (tb_m 355 (by decide +kernel)), by decide +kernel, by decide +kernel, by decide +kernel⟩
theorem ck_X3_38 : CKS RX3 38 yX3_limitsOf cX3_limitsOf 1 (some (.array .int)) 1 := ⟨(tb_m 397 (by decide +kernel)), (tb_m 399 (by decide +kernel)), (tb_m 56 (by decide +kernel)), (tb_m 398 (by decide +kernel)), by decide +kernel, by decide +kernel, by decide +kernel⟩
section StrRows
variable {p : Program} {l : Launch} {e : Env} {R : Room} {s : State} {m : MethodId} {args : Array Value} {below : List Frame} {meth : Method} {c : Code} {cc : ByteArray} {pc : Nat} {ls : Array Slot}
theorem rt_St {post : Int32 → Prop} {v : Int32} {ty : FieldType} (hx : p.tables.exec = Jvm.exec) (hb : c.code = cc) (hr : meth.sig.returnType = some ty) (hlk : meth.locks = false) (hdg : decode cc pc = .ok (.ireturn, 1)) (hn : narrow ty (.int v) = .int v) (h : post v) : W p l e R s m args below meth c s.heap [] 0 0 (MQ below (vp_Si post) args s 0 0 (fun _ => False)) (F0 m pc ls [.int v]) :=
  W.zret hx hb hr hn (fun t ht _ => ⟨v, rfl, h, ht⟩) (fun q hq => by cases hq) hdg hlk
theorem rt_Sv {post : Unit → Prop} (hx : p.tables.exec = Jvm.exec) (hb : c.code = cc) (hr : meth.sig.returnType = none) (hlk : meth.locks = false) (hdg : decode cc pc = .ok (.return_, 1)) (h : post ()) : W p l e R s m args below meth c s.heap [] 0 0 (MQ below (va_Sv post) args s 0 0 (fun _ => False)) (F0 m pc ls []) :=
  W.vret hx hb hr (fun t ht _ => ⟨rfl, h, ht⟩) (fun q hq => by cases hq) hdg hlk
theorem rt_Sr {post : Nat → Prop} {ad : Nat → Value} {ty : FieldType} (k : Nat) (hx : p.tables.exec = Jvm.exec) (hb : c.code = cc) (hr : meth.sig.returnType = some (.array ty)) (hlk : meth.locks = false) (hdg : decode cc pc = .ok (.areturn, 1)) (ha : ∃ a, ad k = .ref a) (h : post k) : W p l e R s m args below meth c s.heap [] 0 0 (MQ below (va_Sr post ad) args s 0 0 (fun _ => False)) (F0 m pc ls [ad k]) :=
  W.aret hx hb hr (Or.inr ⟨_, rfl⟩) (Or.inr ha) (fun t ht _ => ⟨k, rfl, h, ht⟩) (fun q hq => by cases hq) hdg hlk
end StrRows
abbrev rm_J0_coder_7d493 : Room := { frames := 0, cells := 0, slots := 0, locals := 0 }
set_option maxRecDepth 100000 in
set_option maxHeartbeats 4000000 in
theorem c_J0_coder_7d493 (l : Launch) (ts : Nat → Nat) (i : Nat) (hi : i < 3) : Met l yJ0_coder_7d493 [.code yJ0_coder_7d493 cJ0_coder_7d493 1 (some .byte)] rm_J0_coder_7d493 (va_Pc [.ref (ts (3 + i))] (SP ts)) (vp_Si (fun r => r = 0)) 0 0 (fun _ => False) := by
  refine ax_SX (by decide) (Nat.le_of_ble_eq_true rfl) ?_
  intro p e s m args below meth c hx hb hr hlk hml hown hT hX hS ls hl
  have hl : lv_has ls 1 [(0, .ref (ts (3 + i)))] := hl
  refine va_gets hx hb hX.1 hS hown (hT.use (tb_m 351 (by decide +kernel)) rfl) (fun _ h => h) dJ0_coder_7d493_0 ?_
  refine lv_if_eq (tgt := 13) hx hb dJ0_coder_7d493_3 (by decide) (fun ct => absurd ct (by decide)) (fun _ => ?_)
  refine lv_aload_n hx hb dJ0_coder_7d493_6 rfl (lv_at hl 0 rfl) ?_
  refine vk_getf hx hb (hX.2.2.2.2.2.2.2.2.2.1 i hi).2.1 hS hown (hT.use (tb_m 1007 (by decide +kernel)) rfl) (fun _ h => h) dJ0_coder_7d493_7 ?_
  refine lv_goto (tgt := 14) hx hb dJ0_coder_7d493_10 (by decide) ?_
  exact rt_St hx hb hr hlk dJ0_coder_7d493_14 rfl rfl
abbrev rm_J0_isLatin1_aae02 : Room := { frames := 0, cells := 0, slots := 0, locals := 0 }
set_option maxRecDepth 100000 in
set_option maxHeartbeats 4000000 in
theorem c_J0_isLatin1_aae02 (l : Launch) (ts : Nat → Nat) (i : Nat) (hi : i < 3) : Met l yJ0_isLatin1_aae02 [.code yJ0_isLatin1_aae02 cJ0_isLatin1_aae02 1 (some .boolean)] rm_J0_isLatin1_aae02 (va_Pc [.ref (ts (3 + i))] (SP ts)) (vp_Si (fun r => r = 1)) 0 0 (fun _ => False) := by
  refine ax_SX (by decide) (Nat.le_of_ble_eq_true rfl) ?_
  intro p e s m args below meth c hx hb hr hlk hml hown hT hX hS ls hl
  have hl : lv_has ls 1 [(0, .ref (ts (3 + i)))] := hl
  refine va_gets hx hb hX.1 hS hown (hT.use (tb_m 351 (by decide +kernel)) rfl) (fun _ h => h) dJ0_isLatin1_aae02_0 ?_
  refine lv_if_eq (tgt := 17) hx hb dJ0_isLatin1_aae02_3 (by decide) (fun ct => absurd ct (by decide)) (fun _ => ?_)
  refine lv_aload_n hx hb dJ0_isLatin1_aae02_6 rfl (lv_at hl 0 rfl) ?_
  refine vk_getf hx hb (hX.2.2.2.2.2.2.2.2.2.1 i hi).2.1 hS hown (hT.use (tb_m 1007 (by decide +kernel)) rfl) (fun _ h => h) dJ0_isLatin1_aae02_7 ?_
  refine lv_if_ne (tgt := 17) hx hb dJ0_isLatin1_aae02_10 (by decide) (fun ct => absurd rfl ct) (fun _ => ?_)
  refine lv_iconst (v := 1) hx hb dJ0_isLatin1_aae02_13 (by decide) ?_
  refine lv_goto (tgt := 18) hx hb dJ0_isLatin1_aae02_14 (by decide) ?_
  exact rt_St hx hb hr hlk dJ0_isLatin1_aae02_18 rfl rfl
abbrev rm_J0_length_8abf5 : Room := { frames := 1, cells := 0, slots := 0, locals := 20 }
set_option maxRecDepth 100000 in
set_option maxHeartbeats 4000000 in
theorem c_J0_length_8abf5 (l : Launch) (ts : Nat → Nat) (i : Nat) (hi : i < 3) : Met l yJ0_length_8abf5 [.code yJ0_length_8abf5 cJ0_length_8abf5 1 (some .int)] rm_J0_length_8abf5 (va_Pc [.ref (ts (3 + i))] (SP ts)) (vp_Si (fun r => r = slen i)) 0 0 (fun _ => False) := by
  refine ax_SX (by decide) (Nat.le_of_ble_eq_true rfl) ?_
  intro p e s m args below meth c hx hb hr hlk hml hown hT hX hS ls hl
  have hl : lv_has ls 1 [(0, .ref (ts (3 + i)))] := hl
  refine lv_aload_n hx hb dJ0_length_8abf5_0 rfl (lv_at hl 0 rfl) ?_
  refine vk_getf hx hb (hX.2.2.2.2.2.2.2.2.2.1 i hi).2.2.1 hS hown (hT.use (tb_m 1006 (by decide +kernel)) rfl) (fun _ h => h) dJ0_length_8abf5_1 ?_
  refine va_tlen (v := slen i) hx hb (hX.2.2.2.2.2.2.2.2.2.1 i hi).2.2.2 hS rfl dJ0_length_8abf5_4 ?_
  refine lv_aload_n hx hb dJ0_length_8abf5_5 rfl (lv_at hl 0 rfl) ?_
  refine cl_Si (rn_VX hi rfl (rest := [.int (slen i)]) hx hb hml hown hT hl.1 hX hS ck_J0_335 (c_J0_coder_7d493 l ts i hi) ⟨rfl, rfl, (Nat.le_of_ble_eq_true rfl), (Nat.le_of_ble_eq_true rfl)⟩ ⟨Nat.zero_le _, Nat.zero_le _⟩ rfl rfl (Nat.le_of_ble_eq_true rfl) dJ0_length_8abf5_6) (fun r hr0 => ?_)
  subst hr0
  refine lv_ishr hx hb dJ0_length_8abf5_9 ?_
  exact rt_Si hx hb hr hlk dJ0_length_8abf5_10 (sb_shr0 _)
abbrev rm_J3_checkIndex_8e157 : Room := { frames := 0, cells := 0, slots := 0, locals := 0 }
set_option maxRecDepth 100000 in
set_option maxHeartbeats 4000000 in
theorem c_J3_checkIndex_8e157 (l : Launch) (ts : Nat → Nat) (x0 x1 : Int32) (v : Value) (hv : (lg_sl [.int x0, .int x1, v]).length ≤ 3) (h1 : ¬ x0 < 0) (h2 : x0 < x1) : Met l yJ3_checkIndex_8e157 [.code yJ3_checkIndex_8e157 cJ3_checkIndex_8e157 3 (some .int)] rm_J3_checkIndex_8e157 (va_Pc [.int x0, .int x1, v] (SP ts)) (vp_Si (fun r => r = x0)) 0 0 (fun _ => False) := by
  refine ax_SX (by decide) hv ?_
  intro p e s m args below meth c hx hb hr hlk hml hown hT hX hS ls hl
  have hl : lv_has ls 3 [(0, .int x0), (1, .int x1), (2, v)] := hl
  refine lv_iload_n hx hb dJ3_checkIndex_8e157_0 rfl (lv_at hl 0 rfl) ?_
  refine lv_if_lt (tgt := 9) hx hb dJ3_checkIndex_8e157_1 (by decide) (fun ct => absurd ct h1) (fun _ => ?_)
  refine lv_iload_n hx hb dJ3_checkIndex_8e157_4 rfl (lv_at hl 0 rfl) ?_
  refine lv_iload_n hx hb dJ3_checkIndex_8e157_5 rfl (lv_at hl 1 rfl) ?_
  refine lv_icmp_lt (tgt := 16) hx hb dJ3_checkIndex_8e157_6 (by decide) (fun _ => ?_) (fun ct => absurd h2 ct)
  refine lv_iload_n hx hb dJ3_checkIndex_8e157_16 rfl (lv_at hl 0 rfl) ?_
  exact rt_Si hx hb hr hlk dJ3_checkIndex_8e157_17 rfl
abbrev rm_J0_checkIndex_df160 : Room := { frames := 1, cells := 0, slots := 0, locals := 22 }
set_option maxRecDepth 100000 in
set_option maxHeartbeats 4000000 in
theorem c_J0_checkIndex_df160 (l : Launch) (ts : Nat → Nat) (x0 x1 : Int32) (h1 : ¬ x0 < 0) (h2 : x0 < x1) : Met l yJ0_checkIndex_df160 [.code yJ0_checkIndex_df160 cJ0_checkIndex_df160 2 none] rm_J0_checkIndex_df160 (va_Pc [.int x0, .int x1] (SP ts)) (va_Sv (fun _ => True)) 0 0 (fun _ => False) := by
  refine ax_SX (by decide) (Nat.le_of_ble_eq_true rfl) ?_
  intro p e s m args below meth c hx hb hr hlk hml hown hT hX hS ls hl
  have hl : lv_has ls 2 [(0, .int x0), (1, .int x1)] := hl
  refine lv_iload_n hx hb dJ0_checkIndex_df160_0 rfl (lv_at hl 0 rfl) ?_
  refine lv_iload_n hx hb dJ0_checkIndex_df160_1 rfl (lv_at hl 1 rfl) ?_
  rcases hX.2.1 with hz | ⟨t, hz⟩
  · refine va_gets hx hb hz hS hown (hT.use (tb_m 367 (by decide +kernel)) rfl) (fun _ h => h) dJ0_checkIndex_df160_2 ?_
    refine cl_Si (rn_SX (rest := []) hx hb hml hown hT hl.1 hX hS ck_J0_1059 (c_J3_checkIndex_8e157 l ts x0 x1 .null (Nat.le_of_ble_eq_true rfl) h1 h2) ⟨rfl, rfl, (Nat.le_of_ble_eq_true rfl), (Nat.le_of_ble_eq_true rfl)⟩ ⟨Nat.zero_le _, Nat.zero_le _⟩ rfl rfl (Nat.le_of_ble_eq_true rfl) dJ0_checkIndex_df160_5) (fun r hr0 => ?_)
    refine lv_pop hx hb dJ0_checkIndex_df160_8 rfl ?_
    exact rt_Sv hx hb hr hlk dJ0_checkIndex_df160_9 trivial
  · refine va_gets hx hb hz hS hown (hT.use (tb_m 367 (by decide +kernel)) rfl) (fun _ h => h) dJ0_checkIndex_df160_2 ?_
    refine cl_Si (rn_SX (rest := []) hx hb hml hown hT hl.1 hX hS ck_J0_1059 (c_J3_checkIndex_8e157 l ts x0 x1 (.ref t) (Nat.le_of_ble_eq_true rfl) h1 h2) ⟨rfl, rfl, (Nat.le_of_ble_eq_true rfl), (Nat.le_of_ble_eq_true rfl)⟩ ⟨Nat.zero_le _, Nat.zero_le _⟩ rfl rfl (Nat.le_of_ble_eq_true rfl) dJ0_checkIndex_df160_5) (fun r hr0 => ?_)
    refine lv_pop hx hb dJ0_checkIndex_df160_8 rfl ?_
    exact rt_Sv hx hb hr hlk dJ0_checkIndex_df160_9 trivial
abbrev rm_J1_charAt_3b067 : Room := { frames := 2, cells := 0, slots := 0, locals := 43 }
set_option maxRecDepth 100000 in
set_option maxHeartbeats 4000000 in
theorem in_lt {j : Int32} {n : Nat} (hn : n < 2 ^ 31) (h : vp_in j n) : ¬ j < 0 ∧ j < Int32.ofNat n := by
  obtain ⟨a, b⟩ := not_or.mp h
  refine ⟨a, ?_⟩
  rw [Int32.lt_iff_toInt_lt] at a ⊢
  have e1 : (Int32.ofNat n).toInt = (n : Int) := nI_toInt hn
  have e2 : j.toNatClampNeg = j.toInt.toNat := rfl
  have e3 : (0 : Int32).toInt = 0 := rfl
  omega
set_option maxRecDepth 100000 in
set_option maxHeartbeats 4000000 in
theorem c_J1_charAt_3b067 (l : Launch) (ts : Nat → Nat) (i : Nat) (hi : i < 3) (j : Int32) (hj : vp_in j (slens.getD i 0)) : Met l yJ1_charAt_3b067 [.code yJ1_charAt_3b067 cJ1_charAt_3b067 2 (some .char)] rm_J1_charAt_3b067 (va_Pc [.ref (ts (6 + i)), .int j] (SP ts)) (vp_Si (fun r => r = sch i j.toNatClampNeg)) 0 0 (fun _ => False) := by
  refine ax_SX (by decide) (Nat.le_of_ble_eq_true rfl) ?_
  intro p e s m args below meth c hx hb hr hlk hml hown hT hX hS ls hl
  have hl : lv_has ls 2 [(0, .ref (ts (6 + i))), (1, .int j)] := hl
  have hlt : slens.getD i 0 < 2 ^ 31 := by rcases (show i = 0 ∨ i = 1 ∨ i = 2 by omega) with rfl | rfl | rfl <;> decide
  have hj2 := in_lt hlt hj
  refine lv_iload_n hx hb dJ1_charAt_3b067_0 rfl (lv_at hl 1 rfl) ?_
  refine lv_aload_n hx hb dJ1_charAt_3b067_1 rfl (lv_at hl 0 rfl) ?_
  refine va_tlen (v := slen i) hx hb (hX.2.2.2.2.2.2.2.2.2.1 i hi).2.2.2 hS rfl dJ1_charAt_3b067_2 ?_
  refine cl_Sv (rn_SX (rest := []) hx hb hml hown hT hl.1 hX hS ck_J1_9 (c_J0_checkIndex_df160 l ts j (slen i) hj2.1 hj2.2) ⟨rfl, rfl, (Nat.le_of_ble_eq_true rfl), (Nat.le_of_ble_eq_true rfl)⟩ ⟨Nat.zero_le _, Nat.zero_le _⟩ rfl rfl (Nat.le_of_ble_eq_true rfl) dJ1_charAt_3b067_3) (fun _ => ?_)
  refine lv_aload_n hx hb dJ1_charAt_3b067_6 rfl (lv_at hl 0 rfl) ?_
  refine lv_iload_n hx hb dJ1_charAt_3b067_7 rfl (lv_at hl 1 rfl) ?_
  refine va_tb hx hb (hX.2.2.2.2.2.2.2.2.2.1 i hi).2.2.2 hS hj rfl dJ1_charAt_3b067_8 ?_
  refine lv_sipush (v := 255) hx hb dJ1_charAt_3b067_9 (by decide) ?_
  refine lv_iand hx hb dJ1_charAt_3b067_12 ?_
  refine lv_i2c hx hb dJ1_charAt_3b067_13 rfl ?_
  exact rt_St hx hb hr hlk dJ1_charAt_3b067_14 (pk_nc _) rfl
abbrev rm_J0_charAt_5068e : Room := { frames := 3, cells := 0, slots := 0, locals := 64 }
set_option maxRecDepth 100000 in
set_option maxHeartbeats 4000000 in
theorem c_J0_charAt_5068e (l : Launch) (ts : Nat → Nat) (i : Nat) (hi : i < 3) (j : Int32) (hj : vp_in j (slens.getD i 0)) : Met l yJ0_charAt_5068e [.code yJ0_charAt_5068e cJ0_charAt_5068e 2 (some .char)] rm_J0_charAt_5068e (va_Pc [.ref (ts (3 + i)), .int j] (SP ts)) (vp_Si (fun r => r = sch i j.toNatClampNeg)) 0 0 (fun _ => False) := by
  refine ax_SX (by decide) (Nat.le_of_ble_eq_true rfl) ?_
  intro p e s m args below meth c hx hb hr hlk hml hown hT hX hS ls hl
  have hl : lv_has ls 2 [(0, .ref (ts (3 + i))), (1, .int j)] := hl
  refine lv_aload_n hx hb dJ0_charAt_5068e_0 rfl (lv_at hl 0 rfl) ?_
  refine cl_Si (rn_VX hi rfl (rest := []) hx hb hml hown hT hl.1 hX hS ck_J0_492 (c_J0_isLatin1_aae02 l ts i hi) ⟨rfl, rfl, (Nat.le_of_ble_eq_true rfl), (Nat.le_of_ble_eq_true rfl)⟩ ⟨Nat.zero_le _, Nat.zero_le _⟩ rfl rfl (Nat.le_of_ble_eq_true rfl) dJ0_charAt_5068e_1) (fun r hr0 => ?_)
  subst hr0
  refine lv_if_eq (tgt := 16) hx hb dJ0_charAt_5068e_4 (by decide) (fun ct => absurd ct (by decide)) (fun _ => ?_)
  refine lv_aload_n hx hb dJ0_charAt_5068e_7 rfl (lv_at hl 0 rfl) ?_
  refine vk_getf hx hb (hX.2.2.2.2.2.2.2.2.2.1 i hi).2.2.1 hS hown (hT.use (tb_m 1006 (by decide +kernel)) rfl) (fun _ h => h) dJ0_charAt_5068e_8 ?_
  refine lv_iload_n hx hb dJ0_charAt_5068e_11 rfl (lv_at hl 1 rfl) ?_
  refine cl_Si (rn_SX (rest := []) hx hb hml hown hT hl.1 hX hS ck_J0_495 (c_J1_charAt_3b067 l ts i hi j hj) ⟨rfl, rfl, (Nat.le_of_ble_eq_true rfl), (Nat.le_of_ble_eq_true rfl)⟩ ⟨Nat.zero_le _, Nat.zero_le _⟩ rfl rfl (Nat.le_of_ble_eq_true rfl) dJ0_charAt_5068e_12) (fun r hr0 => ?_)
  subst hr0
  exact rt_St hx hb hr hlk dJ0_charAt_5068e_15 (pk_nc _) rfl
abbrev rm_X3_limitsOf : Room := { frames := 0, cells := 0, slots := 0, locals := 0 }
set_option maxRecDepth 100000 in
set_option maxHeartbeats 4000000 in
theorem c_X3_limitsOf (l : Launch) (ts : Nat → Nat) (x0 : Int32) : Met l yX3_limitsOf [.code yX3_limitsOf cX3_limitsOf 1 (some (.array .int))] rm_X3_limitsOf (va_Pc [.int x0] (SP ts)) (va_Sr (fun k => k = limK x0) (fun k => .ref (ts k))) 0 0 (fun _ => False) := by
  refine ax_SX (by decide) (Nat.le_of_ble_eq_true rfl) ?_
  intro p e s m args below meth c hx hb hr hlk hml hown hT hX hS ls hl
  have hl : lv_has ls 1 [(0, .int x0)] := hl
  refine lv_iload_n hx hb dX3_limitsOf_0 rfl (lv_at hl 0 rfl) ?_
  by_cases c0 : x0 = 0
  · refine lv_lookup (tgt := 28) (off := 27) hx hb dX3_limitsOf_1 (by decide) (by rw [c0]; decide) (by decide) ?_
    refine va_gets hx hb hX.2.2.1 hS hown (hT.use (tb_m 400 (by decide +kernel)) rfl) (fun _ h => h) dX3_limitsOf_28 ?_
    exact rt_Sr (ad := fun k => .ref (ts k)) 0 hx hb hr hlk dX3_limitsOf_31 ⟨_, rfl⟩ (by simp [limK, c0])
  · by_cases c1 : x0 = 1
    · refine lv_lookup (tgt := 32) (off := 31) hx hb dX3_limitsOf_1 (by decide) (by rw [c1]; decide) (by decide) ?_
      refine va_gets hx hb hX.2.2.2.1 hS hown (hT.use (tb_m 402 (by decide +kernel)) rfl) (fun _ h => h) dX3_limitsOf_32 ?_
      exact rt_Sr (ad := fun k => .ref (ts k)) 1 hx hb hr hlk dX3_limitsOf_35 ⟨_, rfl⟩ (by simp [limK, c1])
    · refine lv_lookup (tgt := 36) (off := 35) hx hb dX3_limitsOf_1 (by decide) ((lv_osw c0 (by decide)).trans ((lv_osw c1 (by decide)).trans rfl)) (by decide) ?_
      refine va_gets hx hb hX.2.2.2.2.1 hS hown (hT.use (tb_m 404 (by decide +kernel)) rfl) (fun _ h => h) dX3_limitsOf_36 ?_
      exact rt_Sr (ad := fun k => .ref (ts k)) 2 hx hb hr hlk dX3_limitsOf_39 ⟨_, rfl⟩ (by simp [limK, c0, c1])
