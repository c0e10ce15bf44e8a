abbrev rm_X3_addByte : Room := { frames := 0, cells := 0, slots := 0, locals := 0 }
set_option maxRecDepth 100000 in
set_option maxHeartbeats 4000000 in
theorem c_X3_addByte (l : Launch) (G : va_G) (cs : Nat → ClassId) (a : Nat → Nat) (sz : Nat)  (X : ZI)  (x1 : Int32) (post : ZI → Prop) (h : w_X3_addByte X x1 post) : Met l yX3_addByte [.code yX3_addByte cX3_addByte 2 none] rm_X3_addByte (va_Pc [.ref (a 99), .int x1] (CP G (tyl cs) (txW a cs X) sz)) (va_Qv (fun (u : ZI) => post u) (CB G (va_A (txW a cs X) sz) (fun u => (txW a cs u))) (va_A (txW a cs X) sz)) 0 0 (va_A (txW a cs X) sz) := by
  refine ax_W (Qc := fun A => va_Qv (fun (u : ZI) => post u) (CB G A (fun u => (txW a cs u))) A) (by decide) (Nat.le_of_ble_eq_true rfl) sz ?_
  intro p e s m args below meth c A hx hb hr hlk hml hown hT hK hA hnm H locs hP hD hS ls hl
  have hl : lv_has ls 2 [(0, .ref (a 99)), (1, .int x1)] := hl
  unfold w_X3_addByte at h
  refine lv_aload_n hx hb dX3_addByte_0 rfl (lv_at hl 0 rfl) ?_
  refine gf_X3_15 hx hb hT hown hK hP 0 rfl rfl dX3_addByte_1 ?_
  refine lv_sipush (v := 150) hx hb dX3_addByte_4 (by decide) ?_
  refine lv_icmp_ge (tgt := 31) hx hb dX3_addByte_7 (by decide) (fun ct => ?_) (fun ct => ?_)
  · have h := h.1 ct
    exact rt_Wv hx hb hr hlk dX3_addByte_31 X hP hD hS h
  · have h := h.2 ct
    refine lv_aload_n hx hb dX3_addByte_10 rfl (lv_at hl 0 rfl) ?_
    refine gf_X3_11 hx hb hT hown hK hP 0 rfl rfl dX3_addByte_11 ?_
    refine lv_aload_n hx hb dX3_addByte_14 rfl (lv_at hl 0 rfl) ?_
    refine gf_X3_15 hx hb hT hown hK hP 0 rfl rfl dX3_addByte_15 ?_
    refine lv_iload_n hx hb dX3_addByte_18 rfl (lv_at hl 1 rfl) ?_
    refine lv_i2b (v := x1.toInt8.toInt32) hx hb dX3_addByte_19 rfl ?_
    obtain ⟨hi, h⟩ := h
    refine va_bast hx hb hK hP hD hS 1 1 rfl rfl hi dX3_addByte_20 (fun H locs hP hD hS => ?_)
    obtain ⟨X1, eX1⟩ : ∃ z : ZI, z = mu X 0 (X 1 0).toNatClampNeg (vp_nar .byte x1.toInt8.toInt32) := ⟨_, rfl⟩
    have h := h X1 eX1
    have hP : va_P G vwCl (txW a cs X1) H := by rw [eX1]; exact hP
    have hD : va_D A (txW a cs X1) := by rw [eX1]; exact hD
    refine lv_aload_n hx hb dX3_addByte_21 rfl (lv_at hl 0 rfl) ?_
    refine lv_dup hx hb dX3_addByte_22 rfl ?_
    refine gf_X3_15 hx hb hT hown hK hP 0 rfl rfl dX3_addByte_23 ?_
    refine lv_iconst (v := 1) hx hb dX3_addByte_26 (by decide) ?_
    refine lv_iadd hx hb dX3_addByte_27 ?_
    refine pf_X3_15 hx hb hT hown hK hP hD hS 0 rfl (Nat.le_of_ble_eq_true rfl) dX3_addByte_28 (fun H locs hP hD hS => ?_)
    obtain ⟨X2, eX2⟩ : ∃ z : ZI, z = mu X1 1 0 ((X1 1 0) + 1) := ⟨_, rfl⟩
    have h := h X2 eX2
    have hP : va_P G vwCl (txW a cs X2) H := by rw [eX2]; exact hP
    have hD : va_D A (txW a cs X2) := by rw [eX2]; exact hD
    exact rt_Wv hx hb hr hlk dX3_addByte_31 X2 hP hD hS h
abbrev rm_X3_putItem : Room := { frames := 4, cells := 0, slots := 0, locals := 97 }
set_option maxRecDepth 100000 in
set_option maxHeartbeats 4000000 in
theorem c_X3_putItem (l : Launch) (G : va_G) (cs : Nat → ClassId) (a b : Nat → Nat) (sz : Nat)  (X : ZI) (T : ZI)  (x1 : Int32) (post : ZI → ZI → Prop) (h : w_X3_putItem X T x1 post) : Met l yX3_putItem [.code yX3_putItem cX3_putItem 3 none] rm_X3_putItem (va_Pc [.ref (a 99), .int x1, .ref (b 99)] (CP G (tyl cs) (xtW a b cs X T) sz)) (va_Qv (fun (u : ZI × ZI) => post u.1 u.2) (CB G (va_A (xtW a b cs X T) sz) (fun u => (xtW a b cs u.1 u.2))) (va_A (xtW a b cs X T) sz)) 0 0 (va_A (xtW a b cs X T) sz) := by
  refine ax_W (Qc := fun A => va_Qv (fun (u : ZI × ZI) => post u.1 u.2) (CB G A (fun u => (xtW a b cs u.1 u.2))) A) (by decide) (Nat.le_of_ble_eq_true rfl) sz ?_
  intro p e s m args below meth c A hx hb hr hlk hml hown hT hK hA hnm H locs hP hD hS ls hl
  have hl : lv_has ls 3 [(0, .ref (a 99)), (1, .int x1), (2, .ref (b 99))] := hl
  unfold w_X3_putItem at h
  refine lv_iload_n hx hb dX3_putItem_0 rfl (lv_at hl 1 rfl) ?_
  by_cases c0 : x1 = 0
  · have h := h.1 c0
    refine lv_lookup (tgt := 28) (off := 27) hx hb dX3_putItem_1 (by decide) (by rw [c0]; decide) (by decide) ?_
    refine lv_aload_n hx hb dX3_putItem_28 rfl (lv_at hl 2 rfl) ?_
    refine lv_aload_n hx hb dX3_putItem_29 rfl (lv_at hl 0 rfl) ?_
    refine gf_X3_31 hx hb hT hown hK hP 0 rfl rfl dX3_putItem_30 ?_
    refine lv_iconst (v := 0) hx hb dX3_putItem_33 (by decide) ?_
    obtain ⟨hi, h⟩ := h
    refine va_iald hx hb hK hP 2 0 rfl rfl hi dX3_putItem_34 ?_
    refine wv_part (wr := List.filterMap (fun i : Nat => (xtW a b cs X T)[i]?) [0, 1, 2]) (w2 := fun u => (xtW a b cs X u)) [3, 4, 5, 6, 7, 8, 9, 10] [0, 1, 2] [0, 1, 2, 3, 4, 5, 6, 7, 8, 9, 10] (rn_VN (rest := []) (ci := 0) (wc := (tbW b cs T)) hx hb hml hown hT hl.1 hK (hP.sub [3, 4, 5, 6, 7, 8, 9, 10] rfl) (hD.sub [3, 4, 5, 6, 7, 8, 9, 10] (by decide) rfl) 0 rfl rfl rfl ck_X3_59 (c_X2_beginAnew l G cs b H.size T (X 6 (0 : Int32).toNatClampNeg) _ h) ⟨rfl, rfl, (Nat.le_of_ble_eq_true rfl), (Nat.le_of_ble_eq_true rfl)⟩ ⟨Nat.le_refl _, Nat.le_refl _⟩ rfl rfl (Nat.le_of_ble_eq_true rfl) dX3_putItem_35) hP hD hS hA rfl rfl rfl (by decide) rfl (fun _ => rfl) (fun T1 H locs hP hD hS h => ?_)
    refine lv_goto (tgt := 125) hx hb dX3_putItem_38 (by decide) ?_
    exact rt_Wv hx hb hr hlk dX3_putItem_125 (X, T1) hP hD hS h
  · have h := h.2 c0
    by_cases c1 : x1 = 1
    · have h := h.1 c1
      refine lv_lookup (tgt := 41) (off := 40) hx hb dX3_putItem_1 (by decide) (by rw [c1]; decide) (by decide) ?_
      refine lv_aload_n hx hb dX3_putItem_41 rfl (lv_at hl 2 rfl) ?_
      refine gf_X3_65 hx hb hT hown hK hP 3 rfl rfl dX3_putItem_42 ?_
      refine lv_aload_n hx hb dX3_putItem_45 rfl (lv_at hl 0 rfl) ?_
      refine gf_X3_31 hx hb hT hown hK hP 0 rfl rfl dX3_putItem_46 ?_
      refine lv_iconst (v := 0) hx hb dX3_putItem_49 (by decide) ?_
      obtain ⟨hi, h⟩ := h
      refine va_iald hx hb hK hP 2 0 rfl rfl hi dX3_putItem_50 ?_
      refine lv_aload_n hx hb dX3_putItem_51 rfl (lv_at hl 0 rfl) ?_
      refine gf_X3_31 hx hb hT hown hK hP 0 rfl rfl dX3_putItem_52 ?_
      refine lv_iconst (v := 1) hx hb dX3_putItem_55 (by decide) ?_
      obtain ⟨hi, h⟩ := h
      refine va_iald hx hb hK hP 2 0 rfl rfl hi dX3_putItem_56 ?_
      refine lv_aload_n hx hb dX3_putItem_57 rfl (lv_at hl 0 rfl) ?_
      refine gf_X3_31 hx hb hT hown hK hP 0 rfl rfl dX3_putItem_58 ?_
      refine lv_iconst (v := 2) hx hb dX3_putItem_61 (by decide) ?_
      obtain ⟨hi, h⟩ := h
      refine va_iald hx hb hK hP 2 0 rfl rfl hi dX3_putItem_62 ?_
      refine lv_iconst (v := 4) hx hb dX3_putItem_63 (by decide) ?_
      refine lv_ishl hx hb dX3_putItem_64 ?_
      refine lv_ior hx hb dX3_putItem_65 ?_
      refine lv_aload_n hx hb dX3_putItem_66 rfl (lv_at hl 0 rfl) ?_
      refine gf_X3_31 hx hb hT hown hK hP 0 rfl rfl dX3_putItem_67 ?_
      refine lv_iconst (v := 3) hx hb dX3_putItem_70 (by decide) ?_
      obtain ⟨hi, h⟩ := h
      refine va_iald hx hb hK hP 2 0 rfl rfl hi dX3_putItem_71 ?_
      refine lv_bipush (v := 8) hx hb dX3_putItem_72 (by decide) ?_
      refine lv_ishl hx hb dX3_putItem_74 ?_
      refine lv_ior hx hb dX3_putItem_75 ?_
      refine lv_aload_n hx hb dX3_putItem_76 rfl (lv_at hl 0 rfl) ?_
      refine gf_X3_31 hx hb hT hown hK hP 0 rfl rfl dX3_putItem_77 ?_
      refine lv_iconst (v := 4) hx hb dX3_putItem_80 (by decide) ?_
      obtain ⟨hi, h⟩ := h
      refine va_iald hx hb hK hP 2 0 rfl rfl hi dX3_putItem_81 ?_
      refine lv_bipush (v := 12) hx hb dX3_putItem_82 (by decide) ?_
      refine lv_ishl hx hb dX3_putItem_84 ?_
      refine lv_ior hx hb dX3_putItem_85 ?_
      obtain ⟨hi, h⟩ := h
      refine va_iast hx hb hK hP hD hS 4 0 rfl rfl hi dX3_putItem_86 (fun H locs hP hD hS => ?_)
      obtain ⟨T2, eT2⟩ : ∃ z : ZI, z = mu T 0 (X 6 (0 : Int32).toNatClampNeg).toNatClampNeg ((((X 6 (1 : Int32).toNatClampNeg) ||| ((X 6 (2 : Int32).toNatClampNeg) <<< (4 &&& 31))) ||| ((X 6 (3 : Int32).toNatClampNeg) <<< (8 &&& 31))) ||| ((X 6 (4 : Int32).toNatClampNeg) <<< (12 &&& 31))) := ⟨_, rfl⟩
      have h := h T2 eT2
      have hP : va_P G vwCl (xtW a b cs X T2) H := by rw [eT2]; exact hP
      have hD : va_D A (xtW a b cs X T2) := by rw [eT2]; exact hD
      refine lv_goto (tgt := 125) hx hb dX3_putItem_87 (by decide) ?_
      exact rt_Wv hx hb hr hlk dX3_putItem_125 (X, T2) hP hD hS h
    · have h := h.2 c1
      refine lv_lookup (tgt := 90) (off := 89) hx hb dX3_putItem_1 (by decide) ((lv_osw c0 (by decide)).trans ((lv_osw c1 (by decide)).trans rfl)) (by decide) ?_
      refine lv_aload_n hx hb dX3_putItem_90 rfl (lv_at hl 2 rfl) ?_
      refine lv_aload_n hx hb dX3_putItem_91 rfl (lv_at hl 0 rfl) ?_
      refine gf_X3_31 hx hb hT hown hK hP 0 rfl rfl dX3_putItem_92 ?_
      refine lv_iconst (v := 0) hx hb dX3_putItem_95 (by decide) ?_
      obtain ⟨hi, h⟩ := h
      refine va_iald hx hb hK hP 2 0 rfl rfl hi dX3_putItem_96 ?_
      refine lv_aload_n hx hb dX3_putItem_97 rfl (lv_at hl 0 rfl) ?_
      refine gf_X3_31 hx hb hT hown hK hP 0 rfl rfl dX3_putItem_98 ?_
      refine lv_iconst (v := 1) hx hb dX3_putItem_101 (by decide) ?_
      obtain ⟨hi, h⟩ := h
      refine va_iald hx hb hK hP 2 0 rfl rfl hi dX3_putItem_102 ?_
      refine lv_aload_n hx hb dX3_putItem_103 rfl (lv_at hl 0 rfl) ?_
      refine gf_X3_31 hx hb hT hown hK hP 0 rfl rfl dX3_putItem_104 ?_
      refine lv_iconst (v := 2) hx hb dX3_putItem_107 (by decide) ?_
      obtain ⟨hi, h⟩ := h
      refine va_iald hx hb hK hP 2 0 rfl rfl hi dX3_putItem_108 ?_
      refine lv_aload_n hx hb dX3_putItem_109 rfl (lv_at hl 0 rfl) ?_
      refine gf_X3_31 hx hb hT hown hK hP 0 rfl rfl dX3_putItem_110 ?_
      refine lv_iconst (v := 3) hx hb dX3_putItem_113 (by decide) ?_
      obtain ⟨hi, h⟩ := h
      refine va_iald hx hb hK hP 2 0 rfl rfl hi dX3_putItem_114 ?_
      refine lv_aload_n hx hb dX3_putItem_115 rfl (lv_at hl 0 rfl) ?_
      refine gf_X3_31 hx hb hT hown hK hP 0 rfl rfl dX3_putItem_116 ?_
      refine lv_iconst (v := 4) hx hb dX3_putItem_119 (by decide) ?_
      obtain ⟨hi, h⟩ := h
      refine va_iald hx hb hK hP 2 0 rfl rfl hi dX3_putItem_120 ?_
      refine wi_part (wr := List.filterMap (fun i : Nat => (xtW a b cs X T)[i]?) [0, 1, 2]) (w2 := fun u => (xtW a b cs X u)) [3, 4, 5, 6, 7, 8, 9, 10] [0, 1, 2] [0, 1, 2, 3, 4, 5, 6, 7, 8, 9, 10] (rn_VN (rest := []) (ci := 0) (wc := (tbW b cs T)) hx hb hml hown hT hl.1 hK (hP.sub [3, 4, 5, 6, 7, 8, 9, 10] rfl) (hD.sub [3, 4, 5, 6, 7, 8, 9, 10] (by decide) rfl) 0 rfl rfl rfl ck_X3_68 (c_X2_putPrint l G cs b H.size T (X 6 (0 : Int32).toNatClampNeg) (X 6 (1 : Int32).toNatClampNeg) (X 6 (2 : Int32).toNatClampNeg) (X 6 (3 : Int32).toNatClampNeg) (X 6 (4 : Int32).toNatClampNeg) _ h) ⟨rfl, rfl, (Nat.le_of_ble_eq_true rfl), (Nat.le_of_ble_eq_true rfl)⟩ ⟨Nat.le_refl _, Nat.le_refl _⟩ rfl rfl (Nat.le_of_ble_eq_true rfl) dX3_putItem_121) hP hD hS hA rfl rfl rfl (by decide) rfl (fun _ => rfl) (fun r3 T4 H locs hP hD hS h => ?_)
      refine lv_pop hx hb dX3_putItem_124 rfl ?_
      exact rt_Wv hx hb hr hlk dX3_putItem_125 (X, T4) hP hD hS h
abbrev rm_X3_isWithin : Room := { frames := 0, cells := 0, slots := 0, locals := 0 }
set_option maxRecDepth 100000 in
set_option maxHeartbeats 4000000 in
theorem c_X3_isWithin (l : Launch) (G : va_G) (cs : Nat → ClassId) (a : Nat → Nat) (sz : Nat)  (X : ZI)  (x1 : Int32) (x2 : Int32) (x3 : Int32) (post : Int32 → ZI → Prop) (h : w_X3_isWithin X x1 x2 x3 post) : Met l yX3_isWithin [.code yX3_isWithin cX3_isWithin 4 (some .boolean)] rm_X3_isWithin (va_Pc [.ref (a 99), .int x1, .int x2, .int x3] (CP G (tyl cs) (txW a cs X) sz)) (va_Qi (fun (r : Int32) (u : ZI) => post r u) (CB G (va_A (txW a cs X) sz) (fun u => (txW a cs u))) (va_A (txW a cs X) sz)) 0 0 (va_A (txW a cs X) sz) := by
  refine ax_W (Qc := fun A => va_Qi (fun (r : Int32) (u : ZI) => post r u) (CB G A (fun u => (txW a cs u))) A) (by decide) (Nat.le_of_ble_eq_true rfl) sz ?_
  intro p e s m args below meth c A hx hb hr hlk hml hown hT hK hA hnm H locs hP hD hS ls hl
  have hl : lv_has ls 4 [(0, .ref (a 99)), (1, .int x1), (2, .int x2), (3, .int x3)] := hl
  unfold w_X3_isWithin at h
  refine lv_iload_n hx hb dX3_isWithin_0 rfl (lv_at hl 1 rfl) ?_
  refine lv_aload_n hx hb dX3_isWithin_1 rfl (lv_at hl 0 rfl) ?_
  refine gf_X3_15 hx hb hT hown hK hP 0 rfl rfl dX3_isWithin_2 ?_
  refine lv_icmp_ge (tgt := 32) hx hb dX3_isWithin_5 (by decide) (fun ct => ?_) (fun ct => ?_)
  · have h := h.1 ct
    refine lv_iconst (v := 0) hx hb dX3_isWithin_32 (by decide) ?_
    exact rt_Wz hx hb hr hlk dX3_isWithin_33 rfl X hP hD hS h
  · have h := h.2 ct
    refine lv_aload_n hx hb dX3_isWithin_8 rfl (lv_at hl 0 rfl) ?_
    refine gf_X3_11 hx hb hT hown hK hP 0 rfl rfl dX3_isWithin_9 ?_
    refine lv_iload_n hx hb dX3_isWithin_12 rfl (lv_at hl 1 rfl) ?_
    obtain ⟨hi, h⟩ := h
    refine va_bald hx hb hK hP 1 1 rfl rfl hi dX3_isWithin_13 ?_
    refine lv_iload_n hx hb dX3_isWithin_14 rfl (lv_at hl 2 rfl) ?_
    refine lv_icmp_lt (tgt := 32) hx hb dX3_isWithin_15 (by decide) (fun ct => ?_) (fun ct => ?_)
    · have h := h.1 ct
      refine lv_iconst (v := 0) hx hb dX3_isWithin_32 (by decide) ?_
      exact rt_Wz hx hb hr hlk dX3_isWithin_33 rfl X hP hD hS h
    · have h := h.2 ct
      refine lv_aload_n hx hb dX3_isWithin_18 rfl (lv_at hl 0 rfl) ?_
      refine gf_X3_11 hx hb hT hown hK hP 0 rfl rfl dX3_isWithin_19 ?_
      refine lv_iload_n hx hb dX3_isWithin_22 rfl (lv_at hl 1 rfl) ?_
      obtain ⟨hi, h⟩ := h
      refine va_bald hx hb hK hP 1 1 rfl rfl hi dX3_isWithin_23 ?_
      refine lv_iload_n hx hb dX3_isWithin_24 rfl (lv_at hl 3 rfl) ?_
      refine lv_icmp_gt (tgt := 32) hx hb dX3_isWithin_25 (by decide) (fun ct => ?_) (fun ct => ?_)
      · have h := h.1 ct
        refine lv_iconst (v := 0) hx hb dX3_isWithin_32 (by decide) ?_
        exact rt_Wz hx hb hr hlk dX3_isWithin_33 rfl X hP hD hS h
      · have h := h.2 ct
        refine lv_iconst (v := 1) hx hb dX3_isWithin_28 (by decide) ?_
        refine lv_goto (tgt := 33) hx hb dX3_isWithin_29 (by decide) ?_
        exact rt_Wz hx hb hr hlk dX3_isWithin_33 rfl X hP hD hS h
abbrev rm_X3_takeNumber : Room := { frames := 1, cells := 0, slots := 0, locals := 23 }
set_option maxRecDepth 100000 in
set_option maxHeartbeats 4000000 in
theorem c_X3_takeNumber (l : Launch) (G : va_G) (cs : Nat → ClassId) (a : Nat → Nat) (sz : Nat)  (X : ZI)   (post : ZI → Prop) (h : w_X3_takeNumber X post) : Met l yX3_takeNumber [.code yX3_takeNumber cX3_takeNumber 1 none] rm_X3_takeNumber (va_Pc [.ref (a 99)] (CP G (tyl cs) (txW a cs X) sz)) (va_Qv (fun (u : ZI) => post u) (CB G (va_A (txW a cs X) sz) (fun u => (txW a cs u))) (va_A (txW a cs X) sz)) 0 0 (va_A (txW a cs X) sz) := by
  refine ax_W (Qc := fun A => va_Qv (fun (u : ZI) => post u) (CB G A (fun u => (txW a cs u))) A) (by decide) (Nat.le_of_ble_eq_true rfl) sz ?_
  intro p e s m args below meth c A hx hb hr hlk hml hown hT hK hA hnm H locs hP hD hS ls hl
  have hl : lv_has ls 1 [(0, .ref (a 99))] := hl
  unfold w_X3_takeNumber at h
  have HL5 : ∀ (K : ZI → Prop), (∀ (Xv : ZI) , K Xv → ∀ (H : Heap) (locs : List Loc), va_P G vwCl (txW a cs Xv) H → va_D A (txW a cs Xv) → va_S A s.heap H locs → ∀ ls : Array Slot, lv_has ls 1 [(0, .ref (a 99))] → W p l e rm_X3_takeNumber s m args below meth c H locs 0 0 (MQ below (va_Qv (fun (u : ZI) => post u) (CB G A (fun u => (txW a cs u))) A) args s 0 0 A) (F0 m 68 ls [])) → ∀ (n : Nat) (Xv : ZI) , itF (w_X3_takeNumber_L5  post K) (fun _ => False) n Xv → ∀ (H : Heap) (locs : List Loc), va_P G vwCl (txW a cs Xv) H → va_D A (txW a cs Xv) → va_S A s.heap H locs → ∀ ls : Array Slot, lv_has ls 1 [(0, .ref (a 99))] → W p l e rm_X3_takeNumber s m args below meth c H locs 0 0 (MQ below (va_Qv (fun (u : ZI) => post u) (CB G A (fun u => (txW a cs u))) A) args s 0 0 A) (F0 m 5 ls []) := by
    intro K hKK n
    induction n with
    | zero =>
      intro Xv h
      exact absurd h id
    | succ n ih =>
      intro Xv h H locs hP hD hS ls hl
      have h : w_X3_takeNumber_L5  post K (itF (w_X3_takeNumber_L5  post K) (fun _ => False) n) Xv := h
      generalize itF (w_X3_takeNumber_L5  post K) (fun _ => False) n = rec at h ih
      unfold w_X3_takeNumber_L5 at h
      refine lv_aload_n hx hb dX3_takeNumber_5 rfl (lv_at hl 0 rfl) ?_
      refine gf_X3_22 hx hb hT hown hK hP 0 rfl rfl dX3_takeNumber_6 ?_
      refine lv_aload_n hx hb dX3_takeNumber_9 rfl (lv_at hl 0 rfl) ?_
      refine gf_X3_15 hx hb hT hown hK hP 0 rfl rfl dX3_takeNumber_10 ?_
      refine lv_icmp_ge (tgt := 68) hx hb dX3_takeNumber_13 (by decide) (fun ct => ?_) (fun ct => ?_)
      · have h := h.1 ct
        exact hKK _ h _ _ hP hD hS ls (lv_sub hl [0] rfl)
      · have h := h.2 ct
        refine lv_aload_n hx hb dX3_takeNumber_16 rfl (lv_at hl 0 rfl) ?_
        refine lv_aload_n hx hb dX3_takeNumber_17 rfl (lv_at hl 0 rfl) ?_
        refine gf_X3_22 hx hb hT hown hK hP 0 rfl rfl dX3_takeNumber_18 ?_
        refine lv_bipush (v := 48) hx hb dX3_takeNumber_21 (by decide) ?_
        refine lv_bipush (v := 57) hx hb dX3_takeNumber_23 (by decide) ?_
        refine wi_all (rn_V (rest := []) (ci := 1) hx hb hml hown hT hl.1 hK hP hD 0 rfl rfl rfl ck_X3_72 (c_X3_isWithin l G cs a H.size Xv (Xv 3 0) 48 57 _ h) ⟨rfl, rfl, (Nat.le_of_ble_eq_true rfl), (Nat.le_of_ble_eq_true rfl)⟩ ⟨Nat.le_refl _, Nat.le_refl _⟩ rfl rfl (Nat.le_of_ble_eq_true rfl) dX3_takeNumber_25) hD hS hA (fun r2 X3 H locs hP hD hS h => ?_)
        refine lv_if_eq (tgt := 68) hx hb dX3_takeNumber_28 (by decide) (fun ct => ?_) (fun ct => ?_)
        · have h := h.1 ct
          exact hKK _ h _ _ hP hD hS ls (lv_sub hl [0] rfl)
        · have h := h.2 ct
          refine lv_aload_n hx hb dX3_takeNumber_31 rfl (lv_at hl 0 rfl) ?_
          refine lv_bipush (v := 10) hx hb dX3_takeNumber_32 (by decide) ?_
          refine lv_aload_n hx hb dX3_takeNumber_34 rfl (lv_at hl 0 rfl) ?_
          refine gf_X3_28 hx hb hT hown hK hP 0 rfl rfl dX3_takeNumber_35 ?_
          refine lv_imul hx hb dX3_takeNumber_38 ?_
          refine lv_aload_n hx hb dX3_takeNumber_39 rfl (lv_at hl 0 rfl) ?_
          refine gf_X3_11 hx hb hT hown hK hP 0 rfl rfl dX3_takeNumber_40 ?_
          refine lv_aload_n hx hb dX3_takeNumber_43 rfl (lv_at hl 0 rfl) ?_
          refine gf_X3_22 hx hb hT hown hK hP 0 rfl rfl dX3_takeNumber_44 ?_
          obtain ⟨hi, h⟩ := h
          refine va_bald hx hb hK hP 1 1 rfl rfl hi dX3_takeNumber_47 ?_
          refine lv_iadd hx hb dX3_takeNumber_48 ?_
          refine lv_bipush (v := 48) hx hb dX3_takeNumber_49 (by decide) ?_
          refine lv_isub hx hb dX3_takeNumber_51 ?_
          refine pf_X3_28 hx hb hT hown hK hP hD hS 0 rfl (Nat.le_of_ble_eq_true rfl) dX3_takeNumber_52 (fun H locs hP hD hS => ?_)
          obtain ⟨X4, eX4⟩ : ∃ z : ZI, z = mu X3 5 0 (((10 * (X3 5 0)) + (X3 0 (X3 3 0).toNatClampNeg)) - 48) := ⟨_, rfl⟩
          have h := h X4 eX4
          have hP : va_P G vwCl (txW a cs X4) H := by rw [eX4]; exact hP
          have hD : va_D A (txW a cs X4) := by rw [eX4]; exact hD
          refine lv_aload_n hx hb dX3_takeNumber_55 rfl (lv_at hl 0 rfl) ?_
          refine lv_dup hx hb dX3_takeNumber_56 rfl ?_
          refine gf_X3_22 hx hb hT hown hK hP 0 rfl rfl dX3_takeNumber_57 ?_
          refine lv_iconst (v := 1) hx hb dX3_takeNumber_60 (by decide) ?_
          refine lv_iadd hx hb dX3_takeNumber_61 ?_
          refine pf_X3_22 hx hb hT hown hK hP hD hS 0 rfl (Nat.le_of_ble_eq_true rfl) dX3_takeNumber_62 (fun H locs hP hD hS => ?_)
          obtain ⟨X5, eX5⟩ : ∃ z : ZI, z = mu X4 3 0 ((X4 3 0) + 1) := ⟨_, rfl⟩
          have h := h X5 eX5
          have hP : va_P G vwCl (txW a cs X5) H := by rw [eX5]; exact hP
          have hD : va_D A (txW a cs X5) := by rw [eX5]; exact hD
          refine lv_goto (tgt := 5) hx hb dX3_takeNumber_65 (by decide) ?_
          exact ih _ h _ _ hP hD hS ls (lv_sub hl [0] rfl)
  refine lv_aload_n hx hb dX3_takeNumber_0 rfl (lv_at hl 0 rfl) ?_
  refine lv_iconst (v := 0) hx hb dX3_takeNumber_1 (by decide) ?_
  refine pf_X3_28 hx hb hT hown hK hP hD hS 0 rfl (Nat.le_of_ble_eq_true rfl) dX3_takeNumber_2 (fun H locs hP hD hS => ?_)
  obtain ⟨X1, eX1⟩ : ∃ z : ZI, z = mu X 5 0 0 := ⟨_, rfl⟩
  have h := h X1 eX1
  have hP : va_P G vwCl (txW a cs X1) H := by rw [eX1]; exact hP
  have hD : va_D A (txW a cs X1) := by rw [eX1]; exact hD
  obtain ⟨n9, h⟩ := h
  refine HL5  _ (fun X6 h H locs hP hD hS ls hl => ?_) n9 _ h _ _ hP hD hS ls (lv_sub hl [0] rfl)
  refine lv_aload_n hx hb dX3_takeNumber_68 rfl (lv_at hl 0 rfl) ?_
  refine lv_aload_n hx hb dX3_takeNumber_69 rfl (lv_at hl 0 rfl) ?_
  refine gf_X3_22 hx hb hT hown hK hP 0 rfl rfl dX3_takeNumber_70 ?_
  refine lv_aload_n hx hb dX3_takeNumber_73 rfl (lv_at hl 0 rfl) ?_
  refine gf_X3_19 hx hb hT hown hK hP 0 rfl rfl dX3_takeNumber_74 ?_
  refine lv_isub hx hb dX3_takeNumber_77 ?_
  refine lv_iconst (v := 2) hx hb dX3_takeNumber_78 (by decide) ?_
  refine lv_icmp_gt (tgt := 86) hx hb dX3_takeNumber_79 (by decide) (fun ct => ?_) (fun ct => ?_)
  · have h := h.1 ct
    refine lv_iconst (v := 4) hx hb dX3_takeNumber_86 (by decide) ?_
    refine pf_X3_25 hx hb hT hown hK hP hD hS 0 rfl (Nat.le_of_ble_eq_true rfl) dX3_takeNumber_87 (fun H locs hP hD hS => ?_)
    obtain ⟨X7, eX7⟩ : ∃ z : ZI, z = mu X6 4 0 4 := ⟨_, rfl⟩
    have h := h X7 eX7
    have hP : va_P G vwCl (txW a cs X7) H := by rw [eX7]; exact hP
    have hD : va_D A (txW a cs X7) := by rw [eX7]; exact hD
    exact rt_Wv hx hb hr hlk dX3_takeNumber_90 X7 hP hD hS h
  · have h := h.2 ct
    refine lv_iconst (v := 2) hx hb dX3_takeNumber_82 (by decide) ?_
    refine lv_goto (tgt := 87) hx hb dX3_takeNumber_83 (by decide) ?_
    refine pf_X3_25 hx hb hT hown hK hP hD hS 0 rfl (Nat.le_of_ble_eq_true rfl) dX3_takeNumber_87 (fun H locs hP hD hS => ?_)
    obtain ⟨X8, eX8⟩ : ∃ z : ZI, z = mu X6 4 0 2 := ⟨_, rfl⟩
    have h := h X8 eX8
    have hP : va_P G vwCl (txW a cs X8) H := by rw [eX8]; exact hP
    have hD : va_D A (txW a cs X8) := by rw [eX8]; exact hD
    exact rt_Wv hx hb hr hlk dX3_takeNumber_90 X8 hP hD hS h
