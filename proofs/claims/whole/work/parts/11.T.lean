abbrev rm_X2_beginAnew : Room := { frames := 1, cells := 0, slots := 0, locals := 23 }
set_option maxRecDepth 100000 in
set_option maxHeartbeats 4000000 in
theorem c_X2_beginAnew (l : Launch) (G : va_G) (cs ts : Nat → Nat) (a : Nat → Nat) (sz : Nat)  (T : ZI)   (x1 : Int32) (post : ZI → Prop) (h : w_X2_beginAnew T x1 post) : Met l yX2_beginAnew [.code yX2_beginAnew cX2_beginAnew 2 none] rm_X2_beginAnew (va_Pc [.ref (a 99), .int x1] (CP G cs ts (tbW a cs T) sz)) (va_Qv (fun (u : ZI) => post u) (CB G (va_A (tbW a cs T) sz) (fun u => (tbW a cs u))) (va_A (tbW a cs T) sz)) 0 0 (va_A (tbW a cs T) sz) := by
  refine ax_W (Qc := fun A => va_Qv (fun (u : ZI) => post u) (CB G A (fun u => (tbW a cs u))) A) (by decide) (Nat.le_of_ble_eq_true rfl) sz ?_
  intro p e s m args below meth c A hx hb hr hlk hml hown hT hC hnm H locs hP hD hS ls hl
  have hK := hC.2.1
  have hA := hC.2.2
  have hl : lv_has ls 2 [(0, .ref (a 99)), (1, .int x1)] := hl
  unfold w_X2_beginAnew at h
  refine lv_aload_n hx hb dX2_beginAnew_0 rfl (lv_at hl 0 rfl) ?_
  refine gf_X2_9 hx hb hT hown hK hP 0 rfl rfl dX2_beginAnew_1 ?_
  refine lv_iconst (v := 0) hx hb dX2_beginAnew_4 (by decide) ?_
  refine wv_part (wr := List.filterMap (fun i : Nat => (tbW a cs T)[i]?) [0, 2, 3, 4, 5, 6, 7]) (w2 := fun u => (tbW a cs (mf T 0 u))) [1] [0, 2, 3, 4, 5, 6, 7] [0, 7, 1, 2, 3, 4, 5, 6] (rn_SW (rest := []) (wc := flW (a 0) cs 2 (T 0)) hx hb hml hown hT hl.1 hC hS (hP.sub [1] rfl) (hD.sub [1] (by decide) rfl) ck_X2_46 (c_J7_fill_53178 l G cs ts (a 0) H.size 2 (T 0) 0 _ h) ⟨rfl, rfl, (Nat.le_of_ble_eq_true rfl), (Nat.le_of_ble_eq_true rfl)⟩ ⟨Nat.zero_le _, Nat.zero_le _⟩ rfl rfl (Nat.le_of_ble_eq_true rfl) dX2_beginAnew_5) hP hD hS hA rfl rfl rfl (by decide) rfl (fun _ => rfl) (fun f1 H locs hP hD hS h => ?_)
  obtain ⟨T2, eT2⟩ : ∃ z : ZI, z = mf T 0 f1 := ⟨_, rfl⟩
  have h := h T2 eT2
  have hP : va_P G vwCl (tbW a cs T2) H := by rw [eT2]; exact hP
  have hD : va_D A (tbW a cs T2) := by rw [eT2]; exact hD
  refine lv_aload_n hx hb dX2_beginAnew_8 rfl (lv_at hl 0 rfl) ?_
  refine gf_X2_15 hx hb hT hown hK hP 0 rfl rfl dX2_beginAnew_9 ?_
  refine lv_iconst (v := 0) hx hb dX2_beginAnew_12 (by decide) ?_
  refine wv_part (wr := List.filterMap (fun i : Nat => (tbW a cs T2)[i]?) [0, 1, 3, 4, 5, 6, 7]) (w2 := fun u => (tbW a cs (mf T2 1 u))) [2] [0, 1, 3, 4, 5, 6, 7] [0, 1, 7, 2, 3, 4, 5, 6] (rn_SW (rest := []) (wc := flW (a 1) cs 64 (T2 1)) hx hb hml hown hT hl.1 hC hS (hP.sub [2] rfl) (hD.sub [2] (by decide) rfl) ck_X2_46 (c_J7_fill_53178 l G cs ts (a 1) H.size 64 (T2 1) 0 _ h) ⟨rfl, rfl, (Nat.le_of_ble_eq_true rfl), (Nat.le_of_ble_eq_true rfl)⟩ ⟨Nat.zero_le _, Nat.zero_le _⟩ rfl rfl (Nat.le_of_ble_eq_true rfl) dX2_beginAnew_13) hP hD hS hA rfl rfl rfl (by decide) rfl (fun _ => rfl) (fun f3 H locs hP hD hS h => ?_)
  obtain ⟨T4, eT4⟩ : ∃ z : ZI, z = mf T2 1 f3 := ⟨_, rfl⟩
  have h := h T4 eT4
  have hP : va_P G vwCl (tbW a cs T4) H := by rw [eT4]; exact hP
  have hD : va_D A (tbW a cs T4) := by rw [eT4]; exact hD
  refine lv_aload_n hx hb dX2_beginAnew_16 rfl (lv_at hl 0 rfl) ?_
  refine lv_iload_n hx hb dX2_beginAnew_17 rfl (lv_at hl 1 rfl) ?_
  refine pf_X2_18 hx hb hT hown hK hP hD hS 0 rfl (Nat.le_of_ble_eq_true rfl) dX2_beginAnew_18 (fun H locs hP hD hS => ?_)
  obtain ⟨T5, eT5⟩ : ∃ z : ZI, z = mu T4 2 0 x1 := ⟨_, rfl⟩
  have h := h T5 eT5
  have hP : va_P G vwCl (tbW a cs T5) H := by rw [eT5]; exact hP
  have hD : va_D A (tbW a cs T5) := by rw [eT5]; exact hD
  refine lv_aload_n hx hb dX2_beginAnew_21 rfl (lv_at hl 0 rfl) ?_
  refine lv_iconst (v := 0) hx hb dX2_beginAnew_22 (by decide) ?_
  refine pf_X2_25 hx hb hT hown hK hP hD hS 0 rfl (Nat.le_of_ble_eq_true rfl) dX2_beginAnew_23 (fun H locs hP hD hS => ?_)
  obtain ⟨T6, eT6⟩ : ∃ z : ZI, z = mu T5 4 0 0 := ⟨_, rfl⟩
  have h := h T6 eT6
  have hP : va_P G vwCl (tbW a cs T6) H := by rw [eT6]; exact hP
  have hD : va_D A (tbW a cs T6) := by rw [eT6]; exact hD
  refine lv_aload_n hx hb dX2_beginAnew_26 rfl (lv_at hl 0 rfl) ?_
  refine lv_iconst (v := 0) hx hb dX2_beginAnew_27 (by decide) ?_
  refine pf_X2_34 hx hb hT hown hK hP hD hS 0 rfl (Nat.le_of_ble_eq_true rfl) dX2_beginAnew_28 (fun H locs hP hD hS => ?_)
  obtain ⟨T7, eT7⟩ : ∃ z : ZI, z = mu T6 7 0 0 := ⟨_, rfl⟩
  have h := h T7 eT7
  have hP : va_P G vwCl (tbW a cs T7) H := by rw [eT7]; exact hP
  have hD : va_D A (tbW a cs T7) := by rw [eT7]; exact hD
  refine lv_aload_n hx hb dX2_beginAnew_31 rfl (lv_at hl 0 rfl) ?_
  refine lv_iconst (v := 0) hx hb dX2_beginAnew_32 (by decide) ?_
  refine pf_X2_43 hx hb hT hown hK hP hD hS 0 rfl (Nat.le_of_ble_eq_true rfl) dX2_beginAnew_33 (fun H locs hP hD hS => ?_)
  obtain ⟨T8, eT8⟩ : ∃ z : ZI, z = mu T7 10 0 0 := ⟨_, rfl⟩
  have h := h T8 eT8
  have hP : va_P G vwCl (tbW a cs T8) H := by rw [eT8]; exact hP
  have hD : va_D A (tbW a cs T8) := by rw [eT8]; exact hD
  exact rt_Wv hx hb hr hlk dX2_beginAnew_36 T8 hP hD hS h
abbrev rm_X2_takeOverPrints : Room := { frames := 1, cells := 0, slots := 0, locals := 60 }
set_option maxRecDepth 100000 in
set_option maxHeartbeats 4000000 in
theorem c_X2_takeOverPrints (l : Launch) (G : va_G) (cs ts : Nat → Nat) (a b : Nat → Nat) (sz : Nat)  (T : ZI) (O : ZI)   (post : ZI → Prop) (h : w_X2_takeOverPrints T O post) : Met l yX2_takeOverPrints [.code yX2_takeOverPrints cX2_takeOverPrints 2 none] rm_X2_takeOverPrints (va_Pc [.ref (a 99), .ref (b 99)] (CP G cs ts (ttW a b cs T O) sz)) (va_Qv (fun (u : ZI) => post u) (CB G (va_A (ttW a b cs T O) sz) (fun u => (ttW a b cs u O))) (va_A (ttW a b cs T O) sz)) 0 0 (va_A (ttW a b cs T O) sz) := by
  refine ax_W (Qc := fun A => va_Qv (fun (u : ZI) => post u) (CB G A (fun u => (ttW a b cs u O))) A) (by decide) (Nat.le_of_ble_eq_true rfl) sz ?_
  intro p e s m args below meth c A hx hb hr hlk hml hown hT hC hnm H locs hP hD hS ls hl
  have hK := hC.2.1
  have hA := hC.2.2
  have hl : lv_has ls 2 [(0, .ref (a 99)), (1, .ref (b 99))] := hl
  unfold w_X2_takeOverPrints at h
  refine lv_aload_n hx hb dX2_takeOverPrints_0 rfl (lv_at hl 1 rfl) ?_
  refine gf_X2_9 hx hb hT hown hK hP 8 rfl rfl dX2_takeOverPrints_1 ?_
  refine lv_iconst (v := 0) hx hb dX2_takeOverPrints_4 (by decide) ?_
  refine lv_aload_n hx hb dX2_takeOverPrints_5 rfl (lv_at hl 0 rfl) ?_
  refine gf_X2_9 hx hb hT hown hK hP 0 rfl rfl dX2_takeOverPrints_6 ?_
  refine lv_iconst (v := 0) hx hb dX2_takeOverPrints_9 (by decide) ?_
  refine lv_iconst (v := 2) hx hb dX2_takeOverPrints_10 (by decide) ?_
  have hi : ¬ (0 : Int32) < 0 ∧ ¬ (0 : Int32) < 0 ∧ ¬ (2 : Int32) < 0 ∧ (0 : Int32).toNatClampNeg + (2 : Int32).toNatClampNeg ≤ 2 ∧ (0 : Int32).toNatClampNeg + (2 : Int32).toNatClampNeg ≤ 2 := by decide
  refine kc_X2_56 hx hb hml hown hT hl.1 hK hP hD hS 9 1 rfl rfl hi (Nat.le_of_ble_eq_true rfl) (Nat.le_of_ble_eq_true rfl) dX2_takeOverPrints_11 (fun H locs hP hD hS => ?_)
  obtain ⟨T1, eT1⟩ : ∃ z : ZI, z = mf T 0 (va_cpy (O 0) (T 0) 0 0 2) := ⟨_, rfl⟩
  have h := h T1 eT1
  have hP : va_P G vwCl (ttW a b cs T1 O) H := by rw [eT1]; exact hP
  have hD : va_D A (ttW a b cs T1 O) := by rw [eT1]; exact hD
  refine lv_aload_n hx hb dX2_takeOverPrints_14 rfl (lv_at hl 1 rfl) ?_
  refine gf_X2_15 hx hb hT hown hK hP 8 rfl rfl dX2_takeOverPrints_15 ?_
  refine lv_iconst (v := 0) hx hb dX2_takeOverPrints_18 (by decide) ?_
  refine lv_aload_n hx hb dX2_takeOverPrints_19 rfl (lv_at hl 0 rfl) ?_
  refine gf_X2_15 hx hb hT hown hK hP 0 rfl rfl dX2_takeOverPrints_20 ?_
  refine lv_iconst (v := 0) hx hb dX2_takeOverPrints_23 (by decide) ?_
  refine lv_bipush (v := 64) hx hb dX2_takeOverPrints_24 (by decide) ?_
  have hi : ¬ (0 : Int32) < 0 ∧ ¬ (0 : Int32) < 0 ∧ ¬ (64 : Int32) < 0 ∧ (0 : Int32).toNatClampNeg + (64 : Int32).toNatClampNeg ≤ 64 ∧ (0 : Int32).toNatClampNeg + (64 : Int32).toNatClampNeg ≤ 64 := by decide
  refine kc_X2_56 hx hb hml hown hT hl.1 hK hP hD hS 10 2 rfl rfl hi (Nat.le_of_ble_eq_true rfl) (Nat.le_of_ble_eq_true rfl) dX2_takeOverPrints_26 (fun H locs hP hD hS => ?_)
  obtain ⟨T2, eT2⟩ : ∃ z : ZI, z = mf T1 1 (va_cpy (O 1) (T1 1) 0 0 64) := ⟨_, rfl⟩
  have h := h T2 eT2
  have hP : va_P G vwCl (ttW a b cs T2 O) H := by rw [eT2]; exact hP
  have hD : va_D A (ttW a b cs T2 O) := by rw [eT2]; exact hD
  refine lv_aload_n hx hb dX2_takeOverPrints_29 rfl (lv_at hl 0 rfl) ?_
  refine lv_aload_n hx hb dX2_takeOverPrints_30 rfl (lv_at hl 1 rfl) ?_
  refine gf_X2_18 hx hb hT hown hK hP 8 rfl rfl dX2_takeOverPrints_31 ?_
  refine pf_X2_18 hx hb hT hown hK hP hD hS 0 rfl (Nat.le_of_ble_eq_true rfl) dX2_takeOverPrints_34 (fun H locs hP hD hS => ?_)
  obtain ⟨T3, eT3⟩ : ∃ z : ZI, z = mu T2 2 0 (O 2 0) := ⟨_, rfl⟩
  have h := h T3 eT3
  have hP : va_P G vwCl (ttW a b cs T3 O) H := by rw [eT3]; exact hP
  have hD : va_D A (ttW a b cs T3 O) := by rw [eT3]; exact hD
  exact rt_Wv hx hb hr hlk dX2_takeOverPrints_37 T3 hP hD hS h
abbrev rm_X2_takeOver : Room := { frames := 2, cells := 0, slots := 0, locals := 81 }
set_option maxRecDepth 100000 in
set_option maxHeartbeats 4000000 in
theorem c_X2_takeOver (l : Launch) (G : va_G) (cs ts : Nat → Nat) (a b : Nat → Nat) (sz : Nat)  (T : ZI) (O : ZI)   (post : ZI → Prop) (h : w_X2_takeOver T O post) : Met l yX2_takeOver [.code yX2_takeOver cX2_takeOver 2 none] rm_X2_takeOver (va_Pc [.ref (a 99), .ref (b 99)] (CP G cs ts (ttW a b cs T O) sz)) (va_Qv (fun (u : ZI) => post u) (CB G (va_A (ttW a b cs T O) sz) (fun u => (ttW a b cs u O))) (va_A (ttW a b cs T O) sz)) 0 0 (va_A (ttW a b cs T O) sz) := by
  refine ax_W (Qc := fun A => va_Qv (fun (u : ZI) => post u) (CB G A (fun u => (ttW a b cs u O))) A) (by decide) (Nat.le_of_ble_eq_true rfl) sz ?_
  intro p e s m args below meth c A hx hb hr hlk hml hown hT hC hnm H locs hP hD hS ls hl
  have hK := hC.2.1
  have hA := hC.2.2
  have hl : lv_has ls 2 [(0, .ref (a 99)), (1, .ref (b 99))] := hl
  unfold w_X2_takeOver at h
  refine lv_aload_n hx hb dX2_takeOver_0 rfl (lv_at hl 0 rfl) ?_
  refine lv_aload_n hx hb dX2_takeOver_1 rfl (lv_at hl 1 rfl) ?_
  refine wv_part (wr := List.filterMap (fun i : Nat => (ttW a b cs T O)[i]?) []) (w2 := fun u => (ttW a b cs u O)) [0, 1, 2, 3, 4, 5, 6, 7, 8, 9, 10, 11, 12, 13, 14, 15] [] [0, 1, 2, 3, 4, 5, 6, 7, 8, 9, 10, 11, 12, 13, 14, 15] (rn_V (rest := []) (ci := 0) (wc := (ttW a b cs T O)) hx hb hml hown hT hl.1 hC hS (hP.sub [0, 1, 2, 3, 4, 5, 6, 7, 8, 9, 10, 11, 12, 13, 14, 15] rfl) (hD.sub [0, 1, 2, 3, 4, 5, 6, 7, 8, 9, 10, 11, 12, 13, 14, 15] (by decide) rfl) 0 rfl rfl rfl ck_X2_52 (c_X2_takeOverPrints l G cs ts a b H.size T O  _ h) ⟨rfl, rfl, (Nat.le_of_ble_eq_true rfl), (Nat.le_of_ble_eq_true rfl)⟩ ⟨Nat.le_refl _, Nat.le_refl _⟩ rfl rfl (Nat.le_of_ble_eq_true rfl) dX2_takeOver_2) hP hD hS hA rfl rfl rfl (by decide) rfl (fun _ => rfl) (fun T1 H locs hP hD hS h => ?_)
  refine lv_aload_n hx hb dX2_takeOver_5 rfl (lv_at hl 1 rfl) ?_
  refine gf_X2_22 hx hb hT hown hK hP 8 rfl rfl dX2_takeOver_6 ?_
  refine lv_iconst (v := 0) hx hb dX2_takeOver_9 (by decide) ?_
  refine lv_aload_n hx hb dX2_takeOver_10 rfl (lv_at hl 0 rfl) ?_
  refine gf_X2_22 hx hb hT hown hK hP 0 rfl rfl dX2_takeOver_11 ?_
  refine lv_iconst (v := 0) hx hb dX2_takeOver_14 (by decide) ?_
  refine lv_bipush (v := 8) hx hb dX2_takeOver_15 (by decide) ?_
  have hi : ¬ (0 : Int32) < 0 ∧ ¬ (0 : Int32) < 0 ∧ ¬ (8 : Int32) < 0 ∧ (0 : Int32).toNatClampNeg + (8 : Int32).toNatClampNeg ≤ 8 ∧ (0 : Int32).toNatClampNeg + (8 : Int32).toNatClampNeg ≤ 8 := by decide
  refine kc_X2_56 hx hb hml hown hT hl.1 hK hP hD hS 11 3 rfl rfl hi (Nat.le_of_ble_eq_true rfl) (Nat.le_of_ble_eq_true rfl) dX2_takeOver_17 (fun H locs hP hD hS => ?_)
  obtain ⟨T2, eT2⟩ : ∃ z : ZI, z = mf T1 3 (va_cpy (O 3) (T1 3) 0 0 8) := ⟨_, rfl⟩
  have h := h T2 eT2
  have hP : va_P G vwCl (ttW a b cs T2 O) H := by rw [eT2]; exact hP
  have hD : va_D A (ttW a b cs T2 O) := by rw [eT2]; exact hD
  refine lv_aload_n hx hb dX2_takeOver_20 rfl (lv_at hl 0 rfl) ?_
  refine lv_aload_n hx hb dX2_takeOver_21 rfl (lv_at hl 1 rfl) ?_
  refine gf_X2_25 hx hb hT hown hK hP 8 rfl rfl dX2_takeOver_22 ?_
  refine pf_X2_25 hx hb hT hown hK hP hD hS 0 rfl (Nat.le_of_ble_eq_true rfl) dX2_takeOver_25 (fun H locs hP hD hS => ?_)
  obtain ⟨T3, eT3⟩ : ∃ z : ZI, z = mu T2 4 0 (O 4 0) := ⟨_, rfl⟩
  have h := h T3 eT3
  have hP : va_P G vwCl (ttW a b cs T3 O) H := by rw [eT3]; exact hP
  have hD : va_D A (ttW a b cs T3 O) := by rw [eT3]; exact hD
  refine lv_aload_n hx hb dX2_takeOver_28 rfl (lv_at hl 1 rfl) ?_
  refine gf_X2_28 hx hb hT hown hK hP 8 rfl rfl dX2_takeOver_29 ?_
  refine lv_iconst (v := 0) hx hb dX2_takeOver_32 (by decide) ?_
  refine lv_aload_n hx hb dX2_takeOver_33 rfl (lv_at hl 0 rfl) ?_
  refine gf_X2_28 hx hb hT hown hK hP 0 rfl rfl dX2_takeOver_34 ?_
  refine lv_iconst (v := 0) hx hb dX2_takeOver_37 (by decide) ?_
  refine lv_bipush (v := 8) hx hb dX2_takeOver_38 (by decide) ?_
  have hi : ¬ (0 : Int32) < 0 ∧ ¬ (0 : Int32) < 0 ∧ ¬ (8 : Int32) < 0 ∧ (0 : Int32).toNatClampNeg + (8 : Int32).toNatClampNeg ≤ 8 ∧ (0 : Int32).toNatClampNeg + (8 : Int32).toNatClampNeg ≤ 8 := by decide
  refine kc_X2_56 hx hb hml hown hT hl.1 hK hP hD hS 12 4 rfl rfl hi (Nat.le_of_ble_eq_true rfl) (Nat.le_of_ble_eq_true rfl) dX2_takeOver_40 (fun H locs hP hD hS => ?_)
  obtain ⟨T4, eT4⟩ : ∃ z : ZI, z = mf T3 5 (va_cpy (O 5) (T3 5) 0 0 8) := ⟨_, rfl⟩
  have h := h T4 eT4
  have hP : va_P G vwCl (ttW a b cs T4 O) H := by rw [eT4]; exact hP
  have hD : va_D A (ttW a b cs T4 O) := by rw [eT4]; exact hD
  refine lv_aload_n hx hb dX2_takeOver_43 rfl (lv_at hl 1 rfl) ?_
  refine gf_X2_31 hx hb hT hown hK hP 8 rfl rfl dX2_takeOver_44 ?_
  refine lv_iconst (v := 0) hx hb dX2_takeOver_47 (by decide) ?_
  refine lv_aload_n hx hb dX2_takeOver_48 rfl (lv_at hl 0 rfl) ?_
  refine gf_X2_31 hx hb hT hown hK hP 0 rfl rfl dX2_takeOver_49 ?_
  refine lv_iconst (v := 0) hx hb dX2_takeOver_52 (by decide) ?_
  refine lv_bipush (v := 8) hx hb dX2_takeOver_53 (by decide) ?_
  have hi : ¬ (0 : Int32) < 0 ∧ ¬ (0 : Int32) < 0 ∧ ¬ (8 : Int32) < 0 ∧ (0 : Int32).toNatClampNeg + (8 : Int32).toNatClampNeg ≤ 8 ∧ (0 : Int32).toNatClampNeg + (8 : Int32).toNatClampNeg ≤ 8 := by decide
  refine kc_X2_56 hx hb hml hown hT hl.1 hK hP hD hS 13 5 rfl rfl hi (Nat.le_of_ble_eq_true rfl) (Nat.le_of_ble_eq_true rfl) dX2_takeOver_55 (fun H locs hP hD hS => ?_)
  obtain ⟨T5, eT5⟩ : ∃ z : ZI, z = mf T4 6 (va_cpy (O 6) (T4 6) 0 0 8) := ⟨_, rfl⟩
  have h := h T5 eT5
  have hP : va_P G vwCl (ttW a b cs T5 O) H := by rw [eT5]; exact hP
  have hD : va_D A (ttW a b cs T5 O) := by rw [eT5]; exact hD
  refine lv_aload_n hx hb dX2_takeOver_58 rfl (lv_at hl 0 rfl) ?_
  refine lv_aload_n hx hb dX2_takeOver_59 rfl (lv_at hl 1 rfl) ?_
  refine gf_X2_34 hx hb hT hown hK hP 8 rfl rfl dX2_takeOver_60 ?_
  refine pf_X2_34 hx hb hT hown hK hP hD hS 0 rfl (Nat.le_of_ble_eq_true rfl) dX2_takeOver_63 (fun H locs hP hD hS => ?_)
  obtain ⟨T6, eT6⟩ : ∃ z : ZI, z = mu T5 7 0 (O 7 0) := ⟨_, rfl⟩
  have h := h T6 eT6
  have hP : va_P G vwCl (ttW a b cs T6 O) H := by rw [eT6]; exact hP
  have hD : va_D A (ttW a b cs T6 O) := by rw [eT6]; exact hD
  refine lv_aload_n hx hb dX2_takeOver_66 rfl (lv_at hl 1 rfl) ?_
  refine gf_X2_37 hx hb hT hown hK hP 8 rfl rfl dX2_takeOver_67 ?_
  refine lv_iconst (v := 0) hx hb dX2_takeOver_70 (by decide) ?_
  refine lv_aload_n hx hb dX2_takeOver_71 rfl (lv_at hl 0 rfl) ?_
  refine gf_X2_37 hx hb hT hown hK hP 0 rfl rfl dX2_takeOver_72 ?_
  refine lv_iconst (v := 0) hx hb dX2_takeOver_75 (by decide) ?_
  refine lv_sipush (v := 512) hx hb dX2_takeOver_76 (by decide) ?_
  have hi : ¬ (0 : Int32) < 0 ∧ ¬ (0 : Int32) < 0 ∧ ¬ (512 : Int32) < 0 ∧ (0 : Int32).toNatClampNeg + (512 : Int32).toNatClampNeg ≤ 512 ∧ (0 : Int32).toNatClampNeg + (512 : Int32).toNatClampNeg ≤ 512 := by decide
  refine kc_X2_56 hx hb hml hown hT hl.1 hK hP hD hS 14 6 rfl rfl hi (Nat.le_of_ble_eq_true rfl) (Nat.le_of_ble_eq_true rfl) dX2_takeOver_79 (fun H locs hP hD hS => ?_)
  obtain ⟨T7, eT7⟩ : ∃ z : ZI, z = mf T6 8 (va_cpy (O 8) (T6 8) 0 0 512) := ⟨_, rfl⟩
  have h := h T7 eT7
  have hP : va_P G vwCl (ttW a b cs T7 O) H := by rw [eT7]; exact hP
  have hD : va_D A (ttW a b cs T7 O) := by rw [eT7]; exact hD
  refine lv_aload_n hx hb dX2_takeOver_82 rfl (lv_at hl 1 rfl) ?_
  refine gf_X2_40 hx hb hT hown hK hP 8 rfl rfl dX2_takeOver_83 ?_
  refine lv_iconst (v := 0) hx hb dX2_takeOver_86 (by decide) ?_
  refine lv_aload_n hx hb dX2_takeOver_87 rfl (lv_at hl 0 rfl) ?_
  refine gf_X2_40 hx hb hT hown hK hP 0 rfl rfl dX2_takeOver_88 ?_
  refine lv_iconst (v := 0) hx hb dX2_takeOver_91 (by decide) ?_
  refine lv_bipush (v := 8) hx hb dX2_takeOver_92 (by decide) ?_
  have hi : ¬ (0 : Int32) < 0 ∧ ¬ (0 : Int32) < 0 ∧ ¬ (8 : Int32) < 0 ∧ (0 : Int32).toNatClampNeg + (8 : Int32).toNatClampNeg ≤ 8 ∧ (0 : Int32).toNatClampNeg + (8 : Int32).toNatClampNeg ≤ 8 := by decide
  refine kc_X2_56 hx hb hml hown hT hl.1 hK hP hD hS 15 7 rfl rfl hi (Nat.le_of_ble_eq_true rfl) (Nat.le_of_ble_eq_true rfl) dX2_takeOver_94 (fun H locs hP hD hS => ?_)
  obtain ⟨T8, eT8⟩ : ∃ z : ZI, z = mf T7 9 (va_cpy (O 9) (T7 9) 0 0 8) := ⟨_, rfl⟩
  have h := h T8 eT8
  have hP : va_P G vwCl (ttW a b cs T8 O) H := by rw [eT8]; exact hP
  have hD : va_D A (ttW a b cs T8 O) := by rw [eT8]; exact hD
  refine lv_aload_n hx hb dX2_takeOver_97 rfl (lv_at hl 0 rfl) ?_
  refine lv_aload_n hx hb dX2_takeOver_98 rfl (lv_at hl 1 rfl) ?_
  refine gf_X2_43 hx hb hT hown hK hP 8 rfl rfl dX2_takeOver_99 ?_
  refine pf_X2_43 hx hb hT hown hK hP hD hS 0 rfl (Nat.le_of_ble_eq_true rfl) dX2_takeOver_102 (fun H locs hP hD hS => ?_)
  obtain ⟨T9, eT9⟩ : ∃ z : ZI, z = mu T8 10 0 (O 10 0) := ⟨_, rfl⟩
  have h := h T9 eT9
  have hP : va_P G vwCl (ttW a b cs T9 O) H := by rw [eT9]; exact hP
  have hD : va_D A (ttW a b cs T9 O) := by rw [eT9]; exact hD
  exact rt_Wv hx hb hr hlk dX2_takeOver_105 T9 hP hD hS h
abbrev rm_X2_remember : Room := { frames := 1, cells := 0, slots := 0, locals := 60 }
set_option maxRecDepth 100000 in
set_option maxHeartbeats 4000000 in
theorem c_X2_remember (l : Launch) (G : va_G) (cs ts : Nat → Nat) (a : Nat → Nat) (sz : Nat)  (T : ZI)    (post : ZI → Prop) (h : w_X2_remember T post) : Met l yX2_remember [.code yX2_remember cX2_remember 1 none] rm_X2_remember (va_Pc [.ref (a 99)] (CP G cs ts (tbW a cs T) sz)) (va_Qv (fun (u : ZI) => post u) (CB G (va_A (tbW a cs T) sz) (fun u => (tbW a cs u))) (va_A (tbW a cs T) sz)) 0 0 (va_A (tbW a cs T) sz) := by
  refine ax_W (Qc := fun A => va_Qv (fun (u : ZI) => post u) (CB G A (fun u => (tbW a cs u))) A) (by decide) (Nat.le_of_ble_eq_true rfl) sz ?_
  intro p e s m args below meth c A hx hb hr hlk hml hown hT hC hnm H locs hP hD hS ls hl
  have hK := hC.2.1
  have hA := hC.2.2
  have hl : lv_has ls 1 [(0, .ref (a 99))] := hl
  unfold w_X2_remember at h
  refine lv_aload_n hx hb dX2_remember_0 rfl (lv_at hl 0 rfl) ?_
  refine gf_X2_43 hx hb hT hown hK hP 0 rfl rfl dX2_remember_1 ?_
  refine lv_bipush (v := 8) hx hb dX2_remember_4 (by decide) ?_
  refine lv_icmp_lt (tgt := 47) hx hb dX2_remember_6 (by decide) (fun ct => ?_) (fun ct => ?_)
  · have h := h.1 ct
    refine lv_aload_n hx hb dX2_remember_47 rfl (lv_at hl 0 rfl) ?_
    refine gf_X2_15 hx hb hT hown hK hP 0 rfl rfl dX2_remember_48 ?_
    refine lv_iconst (v := 0) hx hb dX2_remember_51 (by decide) ?_
    refine lv_aload_n hx hb dX2_remember_52 rfl (lv_at hl 0 rfl) ?_
    refine gf_X2_37 hx hb hT hown hK hP 0 rfl rfl dX2_remember_53 ?_
    refine lv_aload_n hx hb dX2_remember_56 rfl (lv_at hl 0 rfl) ?_
    refine gf_X2_43 hx hb hT hown hK hP 0 rfl rfl dX2_remember_57 ?_
    refine lv_bipush (v := 64) hx hb dX2_remember_60 (by decide) ?_
    refine lv_imul hx hb dX2_remember_62 ?_
    refine lv_bipush (v := 64) hx hb dX2_remember_63 (by decide) ?_
    obtain ⟨hi, h⟩ := h
    refine kc_X2_56 hx hb hml hown hT hl.1 hK hP hD hS 2 6 rfl rfl hi (Nat.le_of_ble_eq_true rfl) (Nat.le_of_ble_eq_true rfl) dX2_remember_65 (fun H locs hP hD hS => ?_)
    obtain ⟨T1, eT1⟩ : ∃ z : ZI, z = mf T 8 (va_cpy (T 1) (T 8) 0 ((T 10 0) * 64).toNatClampNeg 64) := ⟨_, rfl⟩
    have h := h T1 eT1
    have hP : va_P G vwCl (tbW a cs T1) H := by rw [eT1]; exact hP
    have hD : va_D A (tbW a cs T1) := by rw [eT1]; exact hD
    refine lv_aload_n hx hb dX2_remember_68 rfl (lv_at hl 0 rfl) ?_
    refine gf_X2_40 hx hb hT hown hK hP 0 rfl rfl dX2_remember_69 ?_
    refine lv_aload_n hx hb dX2_remember_72 rfl (lv_at hl 0 rfl) ?_
    refine gf_X2_43 hx hb hT hown hK hP 0 rfl rfl dX2_remember_73 ?_
    refine lv_aload_n hx hb dX2_remember_76 rfl (lv_at hl 0 rfl) ?_
    refine gf_X2_18 hx hb hT hown hK hP 0 rfl rfl dX2_remember_77 ?_
    obtain ⟨hi, h⟩ := h
    refine va_iast hx hb hK hP hD hS 7 0 rfl rfl hi dX2_remember_80 (fun H locs hP hD hS => ?_)
    obtain ⟨T2, eT2⟩ : ∃ z : ZI, z = mu T1 9 (T1 10 0).toNatClampNeg (T1 2 0) := ⟨_, rfl⟩
    have h := h T2 eT2
    have hP : va_P G vwCl (tbW a cs T2) H := by rw [eT2]; exact hP
    have hD : va_D A (tbW a cs T2) := by rw [eT2]; exact hD
    refine lv_aload_n hx hb dX2_remember_81 rfl (lv_at hl 0 rfl) ?_
    refine lv_dup hx hb dX2_remember_82 rfl ?_
    refine gf_X2_43 hx hb hT hown hK hP 0 rfl rfl dX2_remember_83 ?_
    refine lv_iconst (v := 1) hx hb dX2_remember_86 (by decide) ?_
    refine lv_iadd hx hb dX2_remember_87 ?_
    refine pf_X2_43 hx hb hT hown hK hP hD hS 0 rfl (Nat.le_of_ble_eq_true rfl) dX2_remember_88 (fun H locs hP hD hS => ?_)
    obtain ⟨T3, eT3⟩ : ∃ z : ZI, z = mu T2 10 0 ((T2 10 0) + 1) := ⟨_, rfl⟩
    have h := h T3 eT3
    have hP : va_P G vwCl (tbW a cs T3) H := by rw [eT3]; exact hP
    have hD : va_D A (tbW a cs T3) := by rw [eT3]; exact hD
    exact rt_Wv hx hb hr hlk dX2_remember_91 T3 hP hD hS h
  · have h := h.2 ct
    refine lv_aload_n hx hb dX2_remember_9 rfl (lv_at hl 0 rfl) ?_
    refine gf_X2_37 hx hb hT hown hK hP 0 rfl rfl dX2_remember_10 ?_
    refine lv_bipush (v := 64) hx hb dX2_remember_13 (by decide) ?_
    refine lv_aload_n hx hb dX2_remember_15 rfl (lv_at hl 0 rfl) ?_
    refine gf_X2_37 hx hb hT hown hK hP 0 rfl rfl dX2_remember_16 ?_
    refine lv_iconst (v := 0) hx hb dX2_remember_19 (by decide) ?_
    refine lv_sipush (v := 448) hx hb dX2_remember_20 (by decide) ?_
    have hi : ¬ (64 : Int32) < 0 ∧ ¬ (0 : Int32) < 0 ∧ ¬ (448 : Int32) < 0 ∧ (64 : Int32).toNatClampNeg + (448 : Int32).toNatClampNeg ≤ 512 ∧ (0 : Int32).toNatClampNeg + (448 : Int32).toNatClampNeg ≤ 512 := by decide
    refine kc_X2_56 hx hb hml hown hT hl.1 hK hP hD hS 6 6 rfl rfl hi (Nat.le_of_ble_eq_true rfl) (Nat.le_of_ble_eq_true rfl) dX2_remember_23 (fun H locs hP hD hS => ?_)
    obtain ⟨T4, eT4⟩ : ∃ z : ZI, z = mf T 8 (va_cpy (T 8) (T 8) 64 0 448) := ⟨_, rfl⟩
    have h := h T4 eT4
    have hP : va_P G vwCl (tbW a cs T4) H := by rw [eT4]; exact hP
    have hD : va_D A (tbW a cs T4) := by rw [eT4]; exact hD
    refine lv_aload_n hx hb dX2_remember_26 rfl (lv_at hl 0 rfl) ?_
    refine gf_X2_40 hx hb hT hown hK hP 0 rfl rfl dX2_remember_27 ?_
    refine lv_iconst (v := 1) hx hb dX2_remember_30 (by decide) ?_
    refine lv_aload_n hx hb dX2_remember_31 rfl (lv_at hl 0 rfl) ?_
    refine gf_X2_40 hx hb hT hown hK hP 0 rfl rfl dX2_remember_32 ?_
    refine lv_iconst (v := 0) hx hb dX2_remember_35 (by decide) ?_
    refine lv_bipush (v := 7) hx hb dX2_remember_36 (by decide) ?_
    have hi : ¬ (1 : Int32) < 0 ∧ ¬ (0 : Int32) < 0 ∧ ¬ (7 : Int32) < 0 ∧ (1 : Int32).toNatClampNeg + (7 : Int32).toNatClampNeg ≤ 8 ∧ (0 : Int32).toNatClampNeg + (7 : Int32).toNatClampNeg ≤ 8 := by decide
    refine kc_X2_56 hx hb hml hown hT hl.1 hK hP hD hS 7 7 rfl rfl hi (Nat.le_of_ble_eq_true rfl) (Nat.le_of_ble_eq_true rfl) dX2_remember_38 (fun H locs hP hD hS => ?_)
    obtain ⟨T5, eT5⟩ : ∃ z : ZI, z = mf T4 9 (va_cpy (T4 9) (T4 9) 1 0 7) := ⟨_, rfl⟩
    have h := h T5 eT5
    have hP : va_P G vwCl (tbW a cs T5) H := by rw [eT5]; exact hP
    have hD : va_D A (tbW a cs T5) := by rw [eT5]; exact hD
    refine lv_aload_n hx hb dX2_remember_41 rfl (lv_at hl 0 rfl) ?_
    refine lv_bipush (v := 7) hx hb dX2_remember_42 (by decide) ?_
    refine pf_X2_43 hx hb hT hown hK hP hD hS 0 rfl (Nat.le_of_ble_eq_true rfl) dX2_remember_44 (fun H locs hP hD hS => ?_)
    obtain ⟨T6, eT6⟩ : ∃ z : ZI, z = mu T5 10 0 7 := ⟨_, rfl⟩
    have h := h T6 eT6
    have hP : va_P G vwCl (tbW a cs T6) H := by rw [eT6]; exact hP
    have hD : va_D A (tbW a cs T6) := by rw [eT6]; exact hD
    refine lv_aload_n hx hb dX2_remember_47 rfl (lv_at hl 0 rfl) ?_
    refine gf_X2_15 hx hb hT hown hK hP 0 rfl rfl dX2_remember_48 ?_
    refine lv_iconst (v := 0) hx hb dX2_remember_51 (by decide) ?_
    refine lv_aload_n hx hb dX2_remember_52 rfl (lv_at hl 0 rfl) ?_
    refine gf_X2_37 hx hb hT hown hK hP 0 rfl rfl dX2_remember_53 ?_
    refine lv_aload_n hx hb dX2_remember_56 rfl (lv_at hl 0 rfl) ?_
    refine gf_X2_43 hx hb hT hown hK hP 0 rfl rfl dX2_remember_57 ?_
    refine lv_bipush (v := 64) hx hb dX2_remember_60 (by decide) ?_
    refine lv_imul hx hb dX2_remember_62 ?_
    refine lv_bipush (v := 64) hx hb dX2_remember_63 (by decide) ?_
    obtain ⟨hi, h⟩ := h
    refine kc_X2_56 hx hb hml hown hT hl.1 hK hP hD hS 2 6 rfl rfl hi (Nat.le_of_ble_eq_true rfl) (Nat.le_of_ble_eq_true rfl) dX2_remember_65 (fun H locs hP hD hS => ?_)
    obtain ⟨T7, eT7⟩ : ∃ z : ZI, z = mf T6 8 (va_cpy (T6 1) (T6 8) 0 ((T6 10 0) * 64).toNatClampNeg 64) := ⟨_, rfl⟩
    have h := h T7 eT7
    have hP : va_P G vwCl (tbW a cs T7) H := by rw [eT7]; exact hP
    have hD : va_D A (tbW a cs T7) := by rw [eT7]; exact hD
    refine lv_aload_n hx hb dX2_remember_68 rfl (lv_at hl 0 rfl) ?_
    refine gf_X2_40 hx hb hT hown hK hP 0 rfl rfl dX2_remember_69 ?_
    refine lv_aload_n hx hb dX2_remember_72 rfl (lv_at hl 0 rfl) ?_
    refine gf_X2_43 hx hb hT hown hK hP 0 rfl rfl dX2_remember_73 ?_
    refine lv_aload_n hx hb dX2_remember_76 rfl (lv_at hl 0 rfl) ?_
    refine gf_X2_18 hx hb hT hown hK hP 0 rfl rfl dX2_remember_77 ?_
    obtain ⟨hi, h⟩ := h
    refine va_iast hx hb hK hP hD hS 7 0 rfl rfl hi dX2_remember_80 (fun H locs hP hD hS => ?_)
    obtain ⟨T8, eT8⟩ : ∃ z : ZI, z = mu T7 9 (T7 10 0).toNatClampNeg (T7 2 0) := ⟨_, rfl⟩
    have h := h T8 eT8
    have hP : va_P G vwCl (tbW a cs T8) H := by rw [eT8]; exact hP
    have hD : va_D A (tbW a cs T8) := by rw [eT8]; exact hD
    refine lv_aload_n hx hb dX2_remember_81 rfl (lv_at hl 0 rfl) ?_
    refine lv_dup hx hb dX2_remember_82 rfl ?_
    refine gf_X2_43 hx hb hT hown hK hP 0 rfl rfl dX2_remember_83 ?_
    refine lv_iconst (v := 1) hx hb dX2_remember_86 (by decide) ?_
    refine lv_iadd hx hb dX2_remember_87 ?_
    refine pf_X2_43 hx hb hT hown hK hP hD hS 0 rfl (Nat.le_of_ble_eq_true rfl) dX2_remember_88 (fun H locs hP hD hS => ?_)
    obtain ⟨T9, eT9⟩ : ∃ z : ZI, z = mu T8 10 0 ((T8 10 0) + 1) := ⟨_, rfl⟩
    have h := h T9 eT9
    have hP : va_P G vwCl (tbW a cs T9) H := by rw [eT9]; exact hP
    have hD : va_D A (tbW a cs T9) := by rw [eT9]; exact hD
    exact rt_Wv hx hb hr hlk dX2_remember_91 T9 hP hD hS h
abbrev rm_X2_stepBack : Room := { frames := 1, cells := 0, slots := 0, locals := 60 }
set_option maxRecDepth 100000 in
set_option maxHeartbeats 4000000 in
theorem c_X2_stepBack (l : Launch) (G : va_G) (cs ts : Nat → Nat) (a : Nat → Nat) (sz : Nat)  (T : ZI)    (post : ZI → Prop) (h : w_X2_stepBack T post) : Met l yX2_stepBack [.code yX2_stepBack cX2_stepBack 1 none] rm_X2_stepBack (va_Pc [.ref (a 99)] (CP G cs ts (tbW a cs T) sz)) (va_Qv (fun (u : ZI) => post u) (CB G (va_A (tbW a cs T) sz) (fun u => (tbW a cs u))) (va_A (tbW a cs T) sz)) 0 0 (va_A (tbW a cs T) sz) := by
  refine ax_W (Qc := fun A => va_Qv (fun (u : ZI) => post u) (CB G A (fun u => (tbW a cs u))) A) (by decide) (Nat.le_of_ble_eq_true rfl) sz ?_
  intro p e s m args below meth c A hx hb hr hlk hml hown hT hC hnm H locs hP hD hS ls hl
  have hK := hC.2.1
  have hA := hC.2.2
  have hl : lv_has ls 1 [(0, .ref (a 99))] := hl
  unfold w_X2_stepBack at h
  refine lv_aload_n hx hb dX2_stepBack_0 rfl (lv_at hl 0 rfl) ?_
  refine gf_X2_43 hx hb hT hown hK hP 0 rfl rfl dX2_stepBack_1 ?_
  refine lv_if_le (tgt := 51) hx hb dX2_stepBack_4 (by decide) (fun ct => ?_) (fun ct => ?_)
  · have h := h.1 ct
    exact rt_Wv hx hb hr hlk dX2_stepBack_51 T hP hD hS h
  · have h := h.2 ct
    refine lv_aload_n hx hb dX2_stepBack_7 rfl (lv_at hl 0 rfl) ?_
    refine lv_dup hx hb dX2_stepBack_8 rfl ?_
    refine gf_X2_43 hx hb hT hown hK hP 0 rfl rfl dX2_stepBack_9 ?_
    refine lv_iconst (v := 1) hx hb dX2_stepBack_12 (by decide) ?_
    refine lv_isub hx hb dX2_stepBack_13 ?_
    refine pf_X2_43 hx hb hT hown hK hP hD hS 0 rfl (Nat.le_of_ble_eq_true rfl) dX2_stepBack_14 (fun H locs hP hD hS => ?_)
    obtain ⟨T1, eT1⟩ : ∃ z : ZI, z = mu T 10 0 ((T 10 0) - 1) := ⟨_, rfl⟩
    have h := h T1 eT1
    have hP : va_P G vwCl (tbW a cs T1) H := by rw [eT1]; exact hP
    have hD : va_D A (tbW a cs T1) := by rw [eT1]; exact hD
    refine lv_aload_n hx hb dX2_stepBack_17 rfl (lv_at hl 0 rfl) ?_
    refine gf_X2_37 hx hb hT hown hK hP 0 rfl rfl dX2_stepBack_18 ?_
    refine lv_aload_n hx hb dX2_stepBack_21 rfl (lv_at hl 0 rfl) ?_
    refine gf_X2_43 hx hb hT hown hK hP 0 rfl rfl dX2_stepBack_22 ?_
    refine lv_bipush (v := 64) hx hb dX2_stepBack_25 (by decide) ?_
    refine lv_imul hx hb dX2_stepBack_27 ?_
    refine lv_aload_n hx hb dX2_stepBack_28 rfl (lv_at hl 0 rfl) ?_
    refine gf_X2_15 hx hb hT hown hK hP 0 rfl rfl dX2_stepBack_29 ?_
    refine lv_iconst (v := 0) hx hb dX2_stepBack_32 (by decide) ?_
    refine lv_bipush (v := 64) hx hb dX2_stepBack_33 (by decide) ?_
    obtain ⟨hi, h⟩ := h
    refine kc_X2_56 hx hb hml hown hT hl.1 hK hP hD hS 6 2 rfl rfl hi (Nat.le_of_ble_eq_true rfl) (Nat.le_of_ble_eq_true rfl) dX2_stepBack_35 (fun H locs hP hD hS => ?_)
    obtain ⟨T2, eT2⟩ : ∃ z : ZI, z = mf T1 1 (va_cpy (T1 8) (T1 1) ((T1 10 0) * 64).toNatClampNeg 0 64) := ⟨_, rfl⟩
    have h := h T2 eT2
    have hP : va_P G vwCl (tbW a cs T2) H := by rw [eT2]; exact hP
    have hD : va_D A (tbW a cs T2) := by rw [eT2]; exact hD
    refine lv_aload_n hx hb dX2_stepBack_38 rfl (lv_at hl 0 rfl) ?_
    refine lv_aload_n hx hb dX2_stepBack_39 rfl (lv_at hl 0 rfl) ?_
    refine gf_X2_40 hx hb hT hown hK hP 0 rfl rfl dX2_stepBack_40 ?_
    refine lv_aload_n hx hb dX2_stepBack_43 rfl (lv_at hl 0 rfl) ?_
    refine gf_X2_43 hx hb hT hown hK hP 0 rfl rfl dX2_stepBack_44 ?_
    obtain ⟨hi, h⟩ := h
    refine va_iald hx hb hK hP 7 0 rfl rfl hi dX2_stepBack_47 ?_
    refine pf_X2_18 hx hb hT hown hK hP hD hS 0 rfl (Nat.le_of_ble_eq_true rfl) dX2_stepBack_48 (fun H locs hP hD hS => ?_)
    obtain ⟨T3, eT3⟩ : ∃ z : ZI, z = mu T2 2 0 (T2 9 (T2 10 0).toNatClampNeg) := ⟨_, rfl⟩
    have h := h T3 eT3
    have hP : va_P G vwCl (tbW a cs T3) H := by rw [eT3]; exact hP
    have hD : va_D A (tbW a cs T3) := by rw [eT3]; exact hD
    exact rt_Wv hx hb hr hlk dX2_stepBack_51 T3 hP hD hS h
abbrev rm_X2_darken : Room := { frames := 0, cells := 0, slots := 0, locals := 0 }
set_option maxRecDepth 100000 in
set_option maxHeartbeats 4000000 in
theorem c_X2_darken (l : Launch) (G : va_G) (cs ts : Nat → Nat) (a : Nat → Nat) (sz : Nat)  (T : ZI)   (x1 : Int64) (x3 : Int32) (post : Int32 → ZI → Prop) (h : w_X2_darken T x1 x3 post) : Met l yX2_darken [.code yX2_darken cX2_darken 6 (some .int)] rm_X2_darken (va_Pc [.ref (a 99), .long x1, .int x3] (CP G cs ts (tbW a cs T) sz)) (va_Qi (fun (r : Int32) (u : ZI) => post r u) (CB G (va_A (tbW a cs T) sz) (fun u => (tbW a cs u))) (va_A (tbW a cs T) sz)) 0 0 (va_A (tbW a cs T) sz) := by
  refine ax_W (Qc := fun A => va_Qi (fun (r : Int32) (u : ZI) => post r u) (CB G A (fun u => (tbW a cs u))) A) (by decide) (Nat.le_of_ble_eq_true rfl) sz ?_
  intro p e s m args below meth c A hx hb hr hlk hml hown hT hC hnm H locs hP hD hS ls hl
  have hK := hC.2.1
  have hA := hC.2.2
  have hl : lv_has ls 6 [(0, .ref (a 99)), (1, .long x1), (3, .int x3)] := hl
  unfold w_X2_darken at h
  have HL6 : ∀  (z1 : Int64) (z3 : Int32) (K : ZI → Int32 → Int32 → Prop), (∀ (Tv : ZI) (y4 : Int32) (y5 : Int32), K Tv y4 y5 → ∀ (H : Heap) (locs : List Loc), va_P G vwCl (tbW a cs Tv) H → va_D A (tbW a cs Tv) → va_S A s.heap H locs → ∀ ls : Array Slot, lv_has ls 6 [(0, .ref (a 99)), (1, .long z1), (3, .int z3), (4, .int y4), (5, .int y5)] → W p l e rm_X2_darken s m args below meth c H locs 0 0 (MQ below (va_Qi (fun (r : Int32) (u : ZI) => post r u) (CB G A (fun u => (tbW a cs u))) A) args s 0 0 A) (F0 m 52 ls [])) → ∀ (n : Nat) (Tv : ZI) (y4 : Int32) (y5 : Int32), itF (w_X2_darken_L6 z1 z3 post K) (fun _ _ _ => False) n Tv y4 y5 → ∀ (H : Heap) (locs : List Loc), va_P G vwCl (tbW a cs Tv) H → va_D A (tbW a cs Tv) → va_S A s.heap H locs → ∀ ls : Array Slot, lv_has ls 6 [(0, .ref (a 99)), (1, .long z1), (3, .int z3), (4, .int y4), (5, .int y5)] → W p l e rm_X2_darken s m args below meth c H locs 0 0 (MQ below (va_Qi (fun (r : Int32) (u : ZI) => post r u) (CB G A (fun u => (tbW a cs u))) A) args s 0 0 A) (F0 m 6 ls []) := by
    intro z1 z3 K hKK n
    induction n with
    | zero =>
      intro Tv y4 y5 h
      exact absurd h id
    | succ n ih =>
      intro Tv y4 y5 h H locs hP hD hS ls hl
      have h : w_X2_darken_L6 z1 z3 post K (itF (w_X2_darken_L6 z1 z3 post K) (fun _ _ _ => False) n) Tv y4 y5 := h
      generalize itF (w_X2_darken_L6 z1 z3 post K) (fun _ _ _ => False) n = rec at h ih
      unfold w_X2_darken_L6 at h
      refine lv_iload hx hb dX2_darken_6 (lv_at hl 4 rfl) ?_
      refine lv_bipush (v := 64) hx hb dX2_darken_8 (by decide) ?_
      refine lv_icmp_ge (tgt := 52) hx hb dX2_darken_10 (by decide) (fun ct => ?_) (fun ct => ?_)
      · have h := h.1 ct
        exact hKK _ _ _ h _ _ hP hD hS ls (lv_sub hl [0, 1, 2, 3, 4] rfl)
      · have h := h.2 ct
        refine lv_lload_n hx hb dX2_darken_13 rfl (lv_at hl 1 rfl) ?_
        refine lv_iload hx hb dX2_darken_14 (lv_at hl 4 rfl) ?_
        refine lv_lushr (v := jlushr z1 y5) hx hb dX2_darken_16 rfl ?_
        refine lv_lconst (v := 1) hx hb dX2_darken_17 (by decide) ?_
        refine lv_land hx hb dX2_darken_18 ?_
        refine lv_lconst (v := 1) hx hb dX2_darken_19 (by decide) ?_
        refine W.lcmp hx hb dX2_darken_20 ?_
        refine lv_if_ne (tgt := 46) hx hb dX2_darken_21 (by decide) (fun ct => ?_) (fun ct => ?_)
        · have h := h.1 ct
          refine lv_iinc (v := y5 + 1) (lv' := [(5, .int (y5 + 1)), (0, .ref (a 99)), (1, .long z1), (3, .int z3), (4, .int y4)]) hx hb dX2_darken_46 hl (k := 4) rfl rfl (by decide) rfl (fun ls hl => ?_)
          refine lv_goto (tgt := 6) hx hb dX2_darken_49 (by decide) ?_
          exact ih _ _ _ h _ _ hP hD hS ls (lv_sub hl [1, 2, 3, 4, 0] rfl)
        · have h := h.2 ct
          refine lv_iload_n hx hb dX2_darken_24 rfl (lv_at hl 2 rfl) ?_
          refine lv_aload_n hx hb dX2_darken_25 rfl (lv_at hl 0 rfl) ?_
          refine gf_X2_15 hx hb hT hown hK hP 0 rfl rfl dX2_darken_26 ?_
          refine lv_iload hx hb dX2_darken_29 (lv_at hl 4 rfl) ?_
          obtain ⟨hi, h⟩ := h
          refine va_iald hx hb hK hP 2 0 rfl rfl hi dX2_darken_31 ?_
          refine lv_icmp_le (tgt := 46) hx hb dX2_darken_32 (by decide) (fun ct => ?_) (fun ct => ?_)
          · have h := h.1 ct
            refine lv_iinc (v := y5 + 1) (lv' := [(5, .int (y5 + 1)), (0, .ref (a 99)), (1, .long z1), (3, .int z3), (4, .int y4)]) hx hb dX2_darken_46 hl (k := 4) rfl rfl (by decide) rfl (fun ls hl => ?_)
            refine lv_goto (tgt := 6) hx hb dX2_darken_49 (by decide) ?_
            exact ih _ _ _ h _ _ hP hD hS ls (lv_sub hl [1, 2, 3, 4, 0] rfl)
          · have h := h.2 ct
            refine lv_aload_n hx hb dX2_darken_35 rfl (lv_at hl 0 rfl) ?_
            refine gf_X2_15 hx hb hT hown hK hP 0 rfl rfl dX2_darken_36 ?_
            refine lv_iload hx hb dX2_darken_39 (lv_at hl 4 rfl) ?_
            refine lv_iload_n hx hb dX2_darken_41 rfl (lv_at hl 2 rfl) ?_
            obtain ⟨hi, h⟩ := h
            refine va_iast hx hb hK hP hD hS 2 0 rfl rfl hi dX2_darken_42 (fun H locs hP hD hS => ?_)
            obtain ⟨T1, eT1⟩ : ∃ z : ZI, z = mu Tv 1 y5.toNatClampNeg z3 := ⟨_, rfl⟩
            have h := h T1 eT1
            have hP : va_P G vwCl (tbW a cs T1) H := by rw [eT1]; exact hP
            have hD : va_D A (tbW a cs T1) := by rw [eT1]; exact hD
            refine lv_iinc (v := y4 + 1) (lv' := [(4, .int (y4 + 1)), (0, .ref (a 99)), (1, .long z1), (3, .int z3), (5, .int y5)]) hx hb dX2_darken_43 hl (k := 3) rfl rfl (by decide) rfl (fun ls hl => ?_)
            refine lv_iinc (v := y5 + 1) (lv' := [(5, .int (y5 + 1)), (4, .int (y4 + 1)), (0, .ref (a 99)), (1, .long z1), (3, .int z3)]) hx hb dX2_darken_46 hl (k := 4) rfl rfl (by decide) rfl (fun ls hl => ?_)
            refine lv_goto (tgt := 6) hx hb dX2_darken_49 (by decide) ?_
            exact ih _ _ _ h _ _ hP hD hS ls (lv_sub hl [2, 3, 4, 1, 0] rfl)
  refine lv_iconst (v := 0) hx hb dX2_darken_0 (by decide) ?_
  refine lv_istore (lv' := [(4, .int 0), (0, .ref (a 99)), (1, .long x1), (3, .int x3)]) hx hb dX2_darken_1 hl (by decide) rfl (fun ls hl => ?_)
  refine lv_iconst (v := 0) hx hb dX2_darken_3 (by decide) ?_
  refine lv_istore (lv' := [(5, .int 0), (4, .int 0), (0, .ref (a 99)), (1, .long x1), (3, .int x3)]) hx hb dX2_darken_4 hl (by decide) rfl (fun ls hl => ?_)
  obtain ⟨n5, h⟩ := h
  refine HL6 _ _ _ (fun T2 v3 v4 h H locs hP hD hS ls hl => ?_) n5 _ _ _ h _ _ hP hD hS ls (lv_sub hl [2, 3, 4, 1, 0] rfl)
  refine lv_iload hx hb dX2_darken_52 (lv_at hl 3 rfl) ?_
  exact rt_Wi hx hb hr hlk dX2_darken_54 T2 hP hD hS h
abbrev rm_X2_putPrint : Room := { frames := 3, cells := 0, slots := 0, locals := 66 }
set_option maxRecDepth 100000 in
set_option maxHeartbeats 4000000 in
theorem c_X2_putPrint (l : Launch) (G : va_G) (cs ts : Nat → Nat) (a : Nat → Nat) (sz : Nat)  (T : ZI)   (x1 : Int32) (x2 : Int32) (x3 : Int32) (x4 : Int32) (x5 : Int32) (post : Int32 → ZI → Prop) (h : w_X2_putPrint T x1 x2 x3 x4 x5 post) : Met l yX2_putPrint [.code yX2_putPrint cX2_putPrint 12 (some .int)] rm_X2_putPrint (va_Pc [.ref (a 99), .int x1, .int x2, .int x3, .int x4, .int x5] (CP G cs ts (tbW a cs T) sz)) (va_Qi (fun (r : Int32) (u : ZI) => post r u) (CB G (va_A (tbW a cs T) sz) (fun u => (tbW a cs u))) (va_A (tbW a cs T) sz)) 0 0 (va_A (tbW a cs T) sz) := by
  refine ax_W (Qc := fun A => va_Qi (fun (r : Int32) (u : ZI) => post r u) (CB G A (fun u => (tbW a cs u))) A) (by decide) (Nat.le_of_ble_eq_true rfl) sz ?_
  intro p e s m args below meth c A hx hb hr hlk hml hown hT hC hnm H locs hP hD hS ls hl
  have hK := hC.2.1
  have hA := hC.2.2
  have hl : lv_has ls 12 [(0, .ref (a 99)), (1, .int x1), (2, .int x2), (3, .int x3), (4, .int x4), (5, .int x5)] := hl
  unfold w_X2_putPrint at h
  refine lv_aload_n hx hb dX2_putPrint_0 rfl (lv_at hl 0 rfl) ?_
  refine gf_X2_9 hx hb hT hown hK hP 0 rfl rfl dX2_putPrint_1 ?_
  refine lv_iload_n hx hb dX2_putPrint_4 rfl (lv_at hl 2 rfl) ?_
  obtain ⟨hi, h⟩ := h
  refine va_iald hx hb hK hP 1 0 rfl rfl hi dX2_putPrint_5 ?_
  refine lv_iload hx hb dX2_putPrint_6 (lv_at hl 5 rfl) ?_
  refine cl_Si (rn_SN (rest := []) hx hb hml hown hT hl.1 ck_X2_62 (c_X1_printed l (T 0 x2.toNatClampNeg) x5 _ h) ⟨rfl, rfl, (Nat.le_of_ble_eq_true rfl), (Nat.le_of_ble_eq_true rfl)⟩ ⟨Nat.zero_le _, Nat.zero_le _⟩ rfl rfl (Nat.le_of_ble_eq_true rfl) dX2_putPrint_8) (fun r1 h => ?_)
  refine lv_istore (lv' := [(6, .int r1), (0, .ref (a 99)), (1, .int x1), (2, .int x2), (3, .int x3), (4, .int x4), (5, .int x5)]) hx hb dX2_putPrint_11 hl (by decide) rfl (fun ls hl => ?_)
  refine lv_iload_n hx hb dX2_putPrint_13 rfl (lv_at hl 2 rfl) ?_
  refine lv_aload_n hx hb dX2_putPrint_14 rfl (lv_at hl 1 rfl) ?_
  refine gf_X2_18 hx hb hT hown hK hP 0 rfl rfl dX2_putPrint_15 ?_
  refine cl_Si (rn_SN (rest := []) hx hb hml hown hT hl.1 ck_X2_68 (c_X0_darkness l x1 (T 2 0) _ h) ⟨rfl, rfl, (Nat.le_of_ble_eq_true rfl), (Nat.le_of_ble_eq_true rfl)⟩ ⟨Nat.zero_le _, Nat.zero_le _⟩ rfl rfl (Nat.le_of_ble_eq_true rfl) dX2_putPrint_18) (fun r2 h => ?_)
  refine lv_istore (lv' := [(7, .int r2), (6, .int r1), (0, .ref (a 99)), (1, .int x1), (2, .int x2), (3, .int x3), (4, .int x4), (5, .int x5)]) hx hb dX2_putPrint_21 hl (by decide) rfl (fun ls hl => ?_)
  refine lv_iload_n hx hb dX2_putPrint_23 rfl (lv_at hl 3 rfl) ?_
  refine lv_aload_n hx hb dX2_putPrint_24 rfl (lv_at hl 2 rfl) ?_
  refine gf_X2_18 hx hb hT hown hK hP 0 rfl rfl dX2_putPrint_25 ?_
  refine lv_iload hx hb dX2_putPrint_28 (lv_at hl 1 rfl) ?_
  refine lv_iload_n hx hb dX2_putPrint_30 rfl (lv_at hl 5 rfl) ?_
  refine lv_iload hx hb dX2_putPrint_31 (lv_at hl 6 rfl) ?_
  refine cl_Sl (rn_SN (rest := []) hx hb hml hown hT hl.1 ck_X2_73 (c_X0_fullCells l x1 (T 2 0) r1 x3 x4 _ h) ⟨rfl, rfl, (Nat.le_of_ble_eq_true rfl), (Nat.le_of_ble_eq_true rfl)⟩ ⟨Nat.zero_le _, Nat.zero_le _⟩ rfl rfl (Nat.le_of_ble_eq_true rfl) dX2_putPrint_33) (fun r3 h => ?_)
  refine lv_lstore (lv' := [(8, .long r3), (7, .int r2), (6, .int r1), (0, .ref (a 99)), (1, .int x1), (2, .int x2), (3, .int x3), (4, .int x4), (5, .int x5)]) hx hb dX2_putPrint_36 hl (by decide) rfl (fun ls hl => ?_)
  refine lv_iload_n hx hb dX2_putPrint_38 rfl (lv_at hl 4 rfl) ?_
  refine lv_aload_n hx hb dX2_putPrint_39 rfl (lv_at hl 3 rfl) ?_
  refine gf_X2_18 hx hb hT hown hK hP 0 rfl rfl dX2_putPrint_40 ?_
  refine lv_iload hx hb dX2_putPrint_43 (lv_at hl 2 rfl) ?_
  refine lv_iload_n hx hb dX2_putPrint_45 rfl (lv_at hl 6 rfl) ?_
  refine lv_iload hx hb dX2_putPrint_46 (lv_at hl 7 rfl) ?_
  refine cl_Sl (rn_SN (rest := []) hx hb hml hown hT hl.1 ck_X2_77 (c_X0_halfCells l x1 (T 2 0) r1 x3 x4 _ h) ⟨rfl, rfl, (Nat.le_of_ble_eq_true rfl), (Nat.le_of_ble_eq_true rfl)⟩ ⟨Nat.zero_le _, Nat.zero_le _⟩ rfl rfl (Nat.le_of_ble_eq_true rfl) dX2_putPrint_48) (fun r4 h => ?_)
  refine lv_lstore (lv' := [(10, .long r4), (8, .long r3), (7, .int r2), (6, .int r1), (0, .ref (a 99)), (1, .int x1), (2, .int x2), (3, .int x3), (4, .int x4), (5, .int x5)]) hx hb dX2_putPrint_51 hl (by decide) rfl (fun ls hl => ?_)
  refine lv_aload_n hx hb dX2_putPrint_53 rfl (lv_at hl 4 rfl) ?_
  refine lv_dup hx hb dX2_putPrint_54 rfl ?_
  refine gf_X2_18 hx hb hT hown hK hP 0 rfl rfl dX2_putPrint_55 ?_
  refine lv_iload_n hx hb dX2_putPrint_58 rfl (lv_at hl 5 rfl) ?_
  refine lv_aload_n hx hb dX2_putPrint_59 rfl (lv_at hl 4 rfl) ?_
  refine gf_X2_18 hx hb hT hown hK hP 0 rfl rfl dX2_putPrint_60 ?_
  refine cl_Si (rn_SN (rest := [.int (T 2 0), .ref (a 99)]) hx hb hml hown hT hl.1 ck_X2_80 (c_X0_paintTaken l x1 (T 2 0) _ h) ⟨rfl, rfl, (Nat.le_of_ble_eq_true rfl), (Nat.le_of_ble_eq_true rfl)⟩ ⟨Nat.zero_le _, Nat.zero_le _⟩ rfl rfl (Nat.le_of_ble_eq_true rfl) dX2_putPrint_63) (fun r5 h => ?_)
  refine lv_isub hx hb dX2_putPrint_66 ?_
  refine pf_X2_18 hx hb hT hown hK hP hD hS 0 rfl (Nat.le_of_ble_eq_true rfl) dX2_putPrint_67 (fun H locs hP hD hS => ?_)
  obtain ⟨T6, eT6⟩ : ∃ z : ZI, z = mu T 2 0 ((T 2 0) - r5) := ⟨_, rfl⟩
  have h := h T6 eT6
  have hP : va_P G vwCl (tbW a cs T6) H := by rw [eT6]; exact hP
  have hD : va_D A (tbW a cs T6) := by rw [eT6]; exact hD
  refine lv_aload_n hx hb dX2_putPrint_70 rfl (lv_at hl 4 rfl) ?_
  refine lv_lload hx hb dX2_putPrint_71 (lv_at hl 1 rfl) ?_
  refine lv_iload hx hb dX2_putPrint_73 (lv_at hl 2 rfl) ?_
  refine wi_all (rn_V (rest := []) (ci := 0) hx hb hml hown hT hl.1 hC hS hP hD 0 rfl rfl rfl ck_X2_83 (c_X2_darken l G cs ts a H.size T6 r3 r2 _ h) ⟨rfl, rfl, (Nat.le_of_ble_eq_true rfl), (Nat.le_of_ble_eq_true rfl)⟩ ⟨Nat.le_refl _, Nat.le_refl _⟩ rfl rfl (Nat.le_of_ble_eq_true rfl) dX2_putPrint_75) hD hS hA (fun r7 T8 H locs hP hD hS h => ?_)
  refine lv_aload_n hx hb dX2_putPrint_78 rfl (lv_at hl 4 rfl) ?_
  refine lv_lload hx hb dX2_putPrint_79 (lv_at hl 0 rfl) ?_
  refine lv_lload hx hb dX2_putPrint_81 (lv_at hl 1 rfl) ?_
  refine ki_X2_87 hx hb hT hown dX2_putPrint_83 ?_
  refine lv_lxor hx hb dX2_putPrint_86 ?_
  refine lv_land hx hb dX2_putPrint_87 ?_
  refine lv_iload hx hb dX2_putPrint_88 (lv_at hl 2 rfl) ?_
  refine lv_iconst (v := 2) hx hb dX2_putPrint_90 (by decide) ?_
  refine lv_idiv hx hb dX2_putPrint_91 (by decide) ?_
  refine wi_all (rn_V (rest := [.int r7]) (ci := 0) hx hb hml hown hT hl.1 hC hS hP hD 0 rfl rfl rfl ck_X2_83 (c_X2_darken l G cs ts a H.size T8 (r4 &&& (r3 ^^^ (-1))) (r2 / 2) _ h) ⟨rfl, rfl, (Nat.le_of_ble_eq_true rfl), (Nat.le_of_ble_eq_true rfl)⟩ ⟨Nat.le_refl _, Nat.le_refl _⟩ rfl rfl (Nat.le_of_ble_eq_true rfl) dX2_putPrint_92) hD hS hA (fun r9 T10 H locs hP hD hS h => ?_)
  refine lv_iadd hx hb dX2_putPrint_95 ?_
  exact rt_Wi hx hb hr hlk dX2_putPrint_96 T10 hP hD hS h
abbrev rm_X2_darkCells : Room := { frames := 0, cells := 0, slots := 0, locals := 0 }
set_option maxRecDepth 100000 in
set_option maxHeartbeats 4000000 in
theorem c_X2_darkCells (l : Launch) (G : va_G) (cs ts : Nat → Nat) (a : Nat → Nat) (sz : Nat)  (T : ZI)    (post : Int64 → ZI → Prop) (h : w_X2_darkCells T post) : Met l yX2_darkCells [.code yX2_darkCells cX2_darkCells 4 (some .long)] rm_X2_darkCells (va_Pc [.ref (a 99)] (CP G cs ts (tbW a cs T) sz)) (va_Ql (fun (r : Int64) (u : ZI) => post r u) (CB G (va_A (tbW a cs T) sz) (fun u => (tbW a cs u))) (va_A (tbW a cs T) sz)) 0 0 (va_A (tbW a cs T) sz) := by
  refine ax_W (Qc := fun A => va_Ql (fun (r : Int64) (u : ZI) => post r u) (CB G A (fun u => (tbW a cs u))) A) (by decide) (Nat.le_of_ble_eq_true rfl) sz ?_
  intro p e s m args below meth c A hx hb hr hlk hml hown hT hC hnm H locs hP hD hS ls hl
  have hK := hC.2.1
  have hA := hC.2.2
  have hl : lv_has ls 4 [(0, .ref (a 99))] := hl
  unfold w_X2_darkCells at h
  have HL4 : ∀ (Tf : ZI)  (K : Int64 → Int32 → Prop), (∀  (y1 : Int64) (y3 : Int32), K y1 y3 → ∀ (H : Heap) (locs : List Loc), va_P G vwCl (tbW a cs Tf) H → va_D A (tbW a cs Tf) → va_S A s.heap H locs → ∀ ls : Array Slot, lv_has ls 4 [(0, .ref (a 99)), (1, .long y1), (3, .int y3)] → W p l e rm_X2_darkCells s m args below meth c H locs 0 0 (MQ below (va_Ql (fun (r : Int64) (u : ZI) => post r u) (CB G A (fun u => (tbW a cs u))) A) args s 0 0 A) (F0 m 31 ls [])) → ∀ (n : Nat)  (y1 : Int64) (y3 : Int32), itF (w_X2_darkCells_L4 Tf post K) (fun _ _ => False) n y1 y3 → ∀ (H : Heap) (locs : List Loc), va_P G vwCl (tbW a cs Tf) H → va_D A (tbW a cs Tf) → va_S A s.heap H locs → ∀ ls : Array Slot, lv_has ls 4 [(0, .ref (a 99)), (1, .long y1), (3, .int y3)] → W p l e rm_X2_darkCells s m args below meth c H locs 0 0 (MQ below (va_Ql (fun (r : Int64) (u : ZI) => post r u) (CB G A (fun u => (tbW a cs u))) A) args s 0 0 A) (F0 m 4 ls []) := by
    intro Tf K hKK n
    induction n with
    | zero =>
      intro y1 y3 h
      exact absurd h id
    | succ n ih =>
      intro y1 y3 h H locs hP hD hS ls hl
      have h : w_X2_darkCells_L4 Tf post K (itF (w_X2_darkCells_L4 Tf post K) (fun _ _ => False) n) y1 y3 := h
      generalize itF (w_X2_darkCells_L4 Tf post K) (fun _ _ => False) n = rec at h ih
      unfold w_X2_darkCells_L4 at h
      refine lv_iload_n hx hb dX2_darkCells_4 rfl (lv_at hl 2 rfl) ?_
      refine lv_bipush (v := 64) hx hb dX2_darkCells_5 (by decide) ?_
      refine lv_icmp_ge (tgt := 31) hx hb dX2_darkCells_7 (by decide) (fun ct => ?_) (fun ct => ?_)
      · have h := h.1 ct
        exact hKK _ _ h _ _ hP hD hS ls (lv_sub hl [0, 1, 2] rfl)
      · have h := h.2 ct
        refine lv_aload_n hx hb dX2_darkCells_10 rfl (lv_at hl 0 rfl) ?_
        refine gf_X2_15 hx hb hT hown hK hP 0 rfl rfl dX2_darkCells_11 ?_
        refine lv_iload_n hx hb dX2_darkCells_14 rfl (lv_at hl 2 rfl) ?_
        obtain ⟨hi, h⟩ := h
        refine va_iald hx hb hK hP 2 0 rfl rfl hi dX2_darkCells_15 ?_
        refine lv_if_le (tgt := 25) hx hb dX2_darkCells_16 (by decide) (fun ct => ?_) (fun ct => ?_)
        · have h := h.1 ct
          refine lv_iinc (v := y3 + 1) (lv' := [(3, .int (y3 + 1)), (0, .ref (a 99)), (1, .long y1)]) hx hb dX2_darkCells_25 hl (k := 2) rfl rfl (by decide) rfl (fun ls hl => ?_)
          refine lv_goto (tgt := 4) hx hb dX2_darkCells_28 (by decide) ?_
          exact ih _ _ h _ _ hP hD hS ls (lv_sub hl [1, 2, 0] rfl)
        · have h := h.2 ct
          refine lv_lload_n hx hb dX2_darkCells_19 rfl (lv_at hl 1 rfl) ?_
          refine lv_lconst (v := 1) hx hb dX2_darkCells_20 (by decide) ?_
          refine lv_iload_n hx hb dX2_darkCells_21 rfl (lv_at hl 2 rfl) ?_
          refine lv_lshl (v := jlshl 1 y3) hx hb dX2_darkCells_22 rfl ?_
          refine lv_lor hx hb dX2_darkCells_23 ?_
          refine lv_topl (fun v1 ev1 => ?_)
          have h := h v1 ev1
          refine lv_lstore_n (lv' := [(1, .long v1), (0, .ref (a 99)), (3, .int y3)]) hx hb dX2_darkCells_24 rfl hl (by decide) rfl (fun ls hl => ?_)
          refine lv_iinc (v := y3 + 1) (lv' := [(3, .int (y3 + 1)), (1, .long v1), (0, .ref (a 99))]) hx hb dX2_darkCells_25 hl (k := 2) rfl rfl (by decide) rfl (fun ls hl => ?_)
          refine lv_goto (tgt := 4) hx hb dX2_darkCells_28 (by decide) ?_
          exact ih _ _ h _ _ hP hD hS ls (lv_sub hl [2, 1, 0] rfl)
  refine lv_lconst (v := 0) hx hb dX2_darkCells_0 (by decide) ?_
  refine lv_lstore_n (lv' := [(1, .long 0), (0, .ref (a 99))]) hx hb dX2_darkCells_1 rfl hl (by decide) rfl (fun ls hl => ?_)
  refine lv_iconst (v := 0) hx hb dX2_darkCells_2 (by decide) ?_
  refine lv_istore_n (lv' := [(3, .int 0), (1, .long 0), (0, .ref (a 99))]) hx hb dX2_darkCells_3 rfl hl (by decide) rfl (fun ls hl => ?_)
  obtain ⟨n4, h⟩ := h
  refine HL4 _ _ (fun v2 v3 h H locs hP hD hS ls hl => ?_) n4 _ _ h _ _ hP hD hS ls (lv_sub hl [2, 1, 0] rfl)
  refine lv_lload_n hx hb dX2_darkCells_31 rfl (lv_at hl 1 rfl) ?_
  exact rt_Wl hx hb hr hlk dX2_darkCells_32 T hP hD hS h
abbrev rm_X2_darknessInAll : Room := { frames := 0, cells := 0, slots := 0, locals := 0 }
set_option maxRecDepth 100000 in
set_option maxHeartbeats 4000000 in
theorem c_X2_darknessInAll (l : Launch) (G : va_G) (cs ts : Nat → Nat) (a : Nat → Nat) (sz : Nat)  (T : ZI)    (post : Int32 → ZI → Prop) (h : w_X2_darknessInAll T post) : Met l yX2_darknessInAll [.code yX2_darknessInAll cX2_darknessInAll 3 (some .int)] rm_X2_darknessInAll (va_Pc [.ref (a 99)] (CP G cs ts (tbW a cs T) sz)) (va_Qi (fun (r : Int32) (u : ZI) => post r u) (CB G (va_A (tbW a cs T) sz) (fun u => (tbW a cs u))) (va_A (tbW a cs T) sz)) 0 0 (va_A (tbW a cs T) sz) := by
  refine ax_W (Qc := fun A => va_Qi (fun (r : Int32) (u : ZI) => post r u) (CB G A (fun u => (tbW a cs u))) A) (by decide) (Nat.le_of_ble_eq_true rfl) sz ?_
  intro p e s m args below meth c A hx hb hr hlk hml hown hT hC hnm H locs hP hD hS ls hl
  have hK := hC.2.1
  have hA := hC.2.2
  have hl : lv_has ls 3 [(0, .ref (a 99))] := hl
  unfold w_X2_darknessInAll at h
  have HL4 : ∀ (Tf : ZI)  (K : Int32 → Int32 → Prop), (∀  (y1 : Int32) (y2 : Int32), K y1 y2 → ∀ (H : Heap) (locs : List Loc), va_P G vwCl (tbW a cs Tf) H → va_D A (tbW a cs Tf) → va_S A s.heap H locs → ∀ ls : Array Slot, lv_has ls 3 [(0, .ref (a 99)), (1, .int y1), (2, .int y2)] → W p l e rm_X2_darknessInAll s m args below meth c H locs 0 0 (MQ below (va_Qi (fun (r : Int32) (u : ZI) => post r u) (CB G A (fun u => (tbW a cs u))) A) args s 0 0 A) (F0 m 25 ls [])) → ∀ (n : Nat)  (y1 : Int32) (y2 : Int32), itF (w_X2_darknessInAll_L4 Tf post K) (fun _ _ => False) n y1 y2 → ∀ (H : Heap) (locs : List Loc), va_P G vwCl (tbW a cs Tf) H → va_D A (tbW a cs Tf) → va_S A s.heap H locs → ∀ ls : Array Slot, lv_has ls 3 [(0, .ref (a 99)), (1, .int y1), (2, .int y2)] → W p l e rm_X2_darknessInAll s m args below meth c H locs 0 0 (MQ below (va_Qi (fun (r : Int32) (u : ZI) => post r u) (CB G A (fun u => (tbW a cs u))) A) args s 0 0 A) (F0 m 4 ls []) := by
    intro Tf K hKK n
    induction n with
    | zero =>
      intro y1 y2 h
      exact absurd h id
    | succ n ih =>
      intro y1 y2 h H locs hP hD hS ls hl
      have h : w_X2_darknessInAll_L4 Tf post K (itF (w_X2_darknessInAll_L4 Tf post K) (fun _ _ => False) n) y1 y2 := h
      generalize itF (w_X2_darknessInAll_L4 Tf post K) (fun _ _ => False) n = rec at h ih
      unfold w_X2_darknessInAll_L4 at h
      refine lv_iload_n hx hb dX2_darknessInAll_4 rfl (lv_at hl 2 rfl) ?_
      refine lv_bipush (v := 64) hx hb dX2_darknessInAll_5 (by decide) ?_
      refine lv_icmp_ge (tgt := 25) hx hb dX2_darknessInAll_7 (by decide) (fun ct => ?_) (fun ct => ?_)
      · have h := h.1 ct
        exact hKK _ _ h _ _ hP hD hS ls (lv_sub hl [0, 1, 2] rfl)
      · have h := h.2 ct
        refine lv_iload_n hx hb dX2_darknessInAll_10 rfl (lv_at hl 1 rfl) ?_
        refine lv_aload_n hx hb dX2_darknessInAll_11 rfl (lv_at hl 0 rfl) ?_
        refine gf_X2_15 hx hb hT hown hK hP 0 rfl rfl dX2_darknessInAll_12 ?_
        refine lv_iload_n hx hb dX2_darknessInAll_15 rfl (lv_at hl 2 rfl) ?_
        obtain ⟨hi, h⟩ := h
        refine va_iald hx hb hK hP 2 0 rfl rfl hi dX2_darknessInAll_16 ?_
        refine lv_iadd hx hb dX2_darknessInAll_17 ?_
        refine lv_topi (fun v1 ev1 => ?_)
        have h := h v1 ev1
        refine lv_istore_n (lv' := [(1, .int v1), (0, .ref (a 99)), (2, .int y2)]) hx hb dX2_darknessInAll_18 rfl hl (by decide) rfl (fun ls hl => ?_)
        refine lv_iinc (v := y2 + 1) (lv' := [(2, .int (y2 + 1)), (1, .int v1), (0, .ref (a 99))]) hx hb dX2_darknessInAll_19 hl (k := 2) rfl rfl (by decide) rfl (fun ls hl => ?_)
        refine lv_goto (tgt := 4) hx hb dX2_darknessInAll_22 (by decide) ?_
        exact ih _ _ h _ _ hP hD hS ls (lv_sub hl [2, 1, 0] rfl)
  refine lv_iconst (v := 0) hx hb dX2_darknessInAll_0 (by decide) ?_
  refine lv_istore_n (lv' := [(1, .int 0), (0, .ref (a 99))]) hx hb dX2_darknessInAll_1 rfl hl (by decide) rfl (fun ls hl => ?_)
  refine lv_iconst (v := 0) hx hb dX2_darknessInAll_2 (by decide) ?_
  refine lv_istore_n (lv' := [(2, .int 0), (1, .int 0), (0, .ref (a 99))]) hx hb dX2_darknessInAll_3 rfl hl (by decide) rfl (fun ls hl => ?_)
  obtain ⟨n4, h⟩ := h
  refine HL4 _ _ (fun v2 v3 h H locs hP hD hS ls hl => ?_) n4 _ _ h _ _ hP hD hS ls (lv_sub hl [2, 1, 0] rfl)
  refine lv_iload_n hx hb dX2_darknessInAll_25 rfl (lv_at hl 1 rfl) ?_
  exact rt_Wi hx hb hr hlk dX2_darknessInAll_26 T hP hD hS h
abbrev rm_X2_wantedCells : Room := { frames := 0, cells := 0, slots := 0, locals := 0 }
set_option maxRecDepth 100000 in
set_option maxHeartbeats 4000000 in
theorem c_X2_wantedCells (l : Launch) (G : va_G) (cs ts : Nat → Nat) (a : Nat → Nat) (sz : Nat)  (T : ZI)    (post : Int64 → ZI → Prop) (h : w_X2_wantedCells T post) : Met l yX2_wantedCells [.code yX2_wantedCells cX2_wantedCells 4 (some .long)] rm_X2_wantedCells (va_Pc [.ref (a 99)] (CP G cs ts (tbW a cs T) sz)) (va_Ql (fun (r : Int64) (u : ZI) => post r u) (CB G (va_A (tbW a cs T) sz) (fun u => (tbW a cs u))) (va_A (tbW a cs T) sz)) 0 0 (va_A (tbW a cs T) sz) := by
  refine ax_W (Qc := fun A => va_Ql (fun (r : Int64) (u : ZI) => post r u) (CB G A (fun u => (tbW a cs u))) A) (by decide) (Nat.le_of_ble_eq_true rfl) sz ?_
  intro p e s m args below meth c A hx hb hr hlk hml hown hT hC hnm H locs hP hD hS ls hl
  have hK := hC.2.1
  have hA := hC.2.2
  have hl : lv_has ls 4 [(0, .ref (a 99))] := hl
  unfold w_X2_wantedCells at h
  have HL4 : ∀ (Tf : ZI)  (K : Int64 → Int32 → Prop), (∀  (y1 : Int64) (y3 : Int32), K y1 y3 → ∀ (H : Heap) (locs : List Loc), va_P G vwCl (tbW a cs Tf) H → va_D A (tbW a cs Tf) → va_S A s.heap H locs → ∀ ls : Array Slot, lv_has ls 4 [(0, .ref (a 99)), (1, .long y1), (3, .int y3)] → W p l e rm_X2_wantedCells s m args below meth c H locs 0 0 (MQ below (va_Ql (fun (r : Int64) (u : ZI) => post r u) (CB G A (fun u => (tbW a cs u))) A) args s 0 0 A) (F0 m 29 ls [])) → ∀ (n : Nat)  (y1 : Int64) (y3 : Int32), itF (w_X2_wantedCells_L4 Tf post K) (fun _ _ => False) n y1 y3 → ∀ (H : Heap) (locs : List Loc), va_P G vwCl (tbW a cs Tf) H → va_D A (tbW a cs Tf) → va_S A s.heap H locs → ∀ ls : Array Slot, lv_has ls 4 [(0, .ref (a 99)), (1, .long y1), (3, .int y3)] → W p l e rm_X2_wantedCells s m args below meth c H locs 0 0 (MQ below (va_Ql (fun (r : Int64) (u : ZI) => post r u) (CB G A (fun u => (tbW a cs u))) A) args s 0 0 A) (F0 m 4 ls []) := by
    intro Tf K hKK n
    induction n with
    | zero =>
      intro y1 y3 h
      exact absurd h id
    | succ n ih =>
      intro y1 y3 h H locs hP hD hS ls hl
      have h : w_X2_wantedCells_L4 Tf post K (itF (w_X2_wantedCells_L4 Tf post K) (fun _ _ => False) n) y1 y3 := h
      generalize itF (w_X2_wantedCells_L4 Tf post K) (fun _ _ => False) n = rec at h ih
      unfold w_X2_wantedCells_L4 at h
      refine lv_iload_n hx hb dX2_wantedCells_4 rfl (lv_at hl 2 rfl) ?_
      refine lv_aload_n hx hb dX2_wantedCells_5 rfl (lv_at hl 0 rfl) ?_
      refine gf_X2_25 hx hb hT hown hK hP 0 rfl rfl dX2_wantedCells_6 ?_
      refine lv_icmp_ge (tgt := 29) hx hb dX2_wantedCells_9 (by decide) (fun ct => ?_) (fun ct => ?_)
      · have h := h.1 ct
        exact hKK _ _ h _ _ hP hD hS ls (lv_sub hl [0, 1, 2] rfl)
      · have h := h.2 ct
        refine lv_lload_n hx hb dX2_wantedCells_12 rfl (lv_at hl 1 rfl) ?_
        refine lv_lconst (v := 1) hx hb dX2_wantedCells_13 (by decide) ?_
        refine lv_aload_n hx hb dX2_wantedCells_14 rfl (lv_at hl 0 rfl) ?_
        refine gf_X2_22 hx hb hT hown hK hP 0 rfl rfl dX2_wantedCells_15 ?_
        refine lv_iload_n hx hb dX2_wantedCells_18 rfl (lv_at hl 2 rfl) ?_
        obtain ⟨hi, h⟩ := h
        refine va_iald hx hb hK hP 3 0 rfl rfl hi dX2_wantedCells_19 ?_
        refine lv_lshl (v := jlshl 1 (Tf 3 y3.toNatClampNeg)) hx hb dX2_wantedCells_20 rfl ?_
        refine lv_lor hx hb dX2_wantedCells_21 ?_
        refine lv_topl (fun v1 ev1 => ?_)
        have h := h v1 ev1
        refine lv_lstore_n (lv' := [(1, .long v1), (0, .ref (a 99)), (3, .int y3)]) hx hb dX2_wantedCells_22 rfl hl (by decide) rfl (fun ls hl => ?_)
        refine lv_iinc (v := y3 + 1) (lv' := [(3, .int (y3 + 1)), (1, .long v1), (0, .ref (a 99))]) hx hb dX2_wantedCells_23 hl (k := 2) rfl rfl (by decide) rfl (fun ls hl => ?_)
        refine lv_goto (tgt := 4) hx hb dX2_wantedCells_26 (by decide) ?_
        exact ih _ _ h _ _ hP hD hS ls (lv_sub hl [2, 1, 0] rfl)
  refine lv_lconst (v := 0) hx hb dX2_wantedCells_0 (by decide) ?_
  refine lv_lstore_n (lv' := [(1, .long 0), (0, .ref (a 99))]) hx hb dX2_wantedCells_1 rfl hl (by decide) rfl (fun ls hl => ?_)
  refine lv_iconst (v := 0) hx hb dX2_wantedCells_2 (by decide) ?_
  refine lv_istore_n (lv' := [(3, .int 0), (1, .long 0), (0, .ref (a 99))]) hx hb dX2_wantedCells_3 rfl hl (by decide) rfl (fun ls hl => ?_)
  obtain ⟨n4, h⟩ := h
  refine HL4 _ _ (fun v2 v3 h H locs hP hD hS ls hl => ?_) n4 _ _ h _ _ hP hD hS ls (lv_sub hl [2, 1, 0] rfl)
  refine lv_lload_n hx hb dX2_wantedCells_29 rfl (lv_at hl 1 rfl) ?_
  exact rt_Wl hx hb hr hlk dX2_wantedCells_30 T hP hD hS h
abbrev rm_X2_seenCellsOf : Room := { frames := 0, cells := 0, slots := 0, locals := 0 }
set_option maxRecDepth 100000 in
set_option maxHeartbeats 4000000 in
theorem c_X2_seenCellsOf (l : Launch) (G : va_G) (cs ts : Nat → Nat) (a : Nat → Nat) (sz : Nat)  (T : ZI)   (x1 : Int32) (post : Int64 → ZI → Prop) (h : w_X2_seenCellsOf T x1 post) : Met l yX2_seenCellsOf [.code yX2_seenCellsOf cX2_seenCellsOf 5 (some .long)] rm_X2_seenCellsOf (va_Pc [.ref (a 99), .int x1] (CP G cs ts (tbW a cs T) sz)) (va_Ql (fun (r : Int64) (u : ZI) => post r u) (CB G (va_A (tbW a cs T) sz) (fun u => (tbW a cs u))) (va_A (tbW a cs T) sz)) 0 0 (va_A (tbW a cs T) sz) := by
  refine ax_W (Qc := fun A => va_Ql (fun (r : Int64) (u : ZI) => post r u) (CB G A (fun u => (tbW a cs u))) A) (by decide) (Nat.le_of_ble_eq_true rfl) sz ?_
  intro p e s m args below meth c A hx hb hr hlk hml hown hT hC hnm H locs hP hD hS ls hl
  have hK := hC.2.1
  have hA := hC.2.2
  have hl : lv_has ls 5 [(0, .ref (a 99)), (1, .int x1)] := hl
  unfold w_X2_seenCellsOf at h
  have HL5 : ∀ (Tf : ZI) (z1 : Int32) (K : Int64 → Int32 → Prop), (∀  (y2 : Int64) (y4 : Int32), K y2 y4 → ∀ (H : Heap) (locs : List Loc), va_P G vwCl (tbW a cs Tf) H → va_D A (tbW a cs Tf) → va_S A s.heap H locs → ∀ ls : Array Slot, lv_has ls 5 [(0, .ref (a 99)), (1, .int z1), (2, .long y2), (4, .int y4)] → W p l e rm_X2_seenCellsOf s m args below meth c H locs 0 0 (MQ below (va_Ql (fun (r : Int64) (u : ZI) => post r u) (CB G A (fun u => (tbW a cs u))) A) args s 0 0 A) (F0 m 43 ls [])) → ∀ (n : Nat)  (y2 : Int64) (y4 : Int32), itF (w_X2_seenCellsOf_L5 Tf z1 post K) (fun _ _ => False) n y2 y4 → ∀ (H : Heap) (locs : List Loc), va_P G vwCl (tbW a cs Tf) H → va_D A (tbW a cs Tf) → va_S A s.heap H locs → ∀ ls : Array Slot, lv_has ls 5 [(0, .ref (a 99)), (1, .int z1), (2, .long y2), (4, .int y4)] → W p l e rm_X2_seenCellsOf s m args below meth c H locs 0 0 (MQ below (va_Ql (fun (r : Int64) (u : ZI) => post r u) (CB G A (fun u => (tbW a cs u))) A) args s 0 0 A) (F0 m 5 ls []) := by
    intro Tf z1 K hKK n
    induction n with
    | zero =>
      intro y2 y4 h
      exact absurd h id
    | succ n ih =>
      intro y2 y4 h H locs hP hD hS ls hl
      have h : w_X2_seenCellsOf_L5 Tf z1 post K (itF (w_X2_seenCellsOf_L5 Tf z1 post K) (fun _ _ => False) n) y2 y4 := h
      generalize itF (w_X2_seenCellsOf_L5 Tf z1 post K) (fun _ _ => False) n = rec at h ih
      unfold w_X2_seenCellsOf_L5 at h
      refine lv_iload hx hb dX2_seenCellsOf_5 (lv_at hl 3 rfl) ?_
      refine lv_aload_n hx hb dX2_seenCellsOf_7 rfl (lv_at hl 0 rfl) ?_
      refine gf_X2_34 hx hb hT hown hK hP 0 rfl rfl dX2_seenCellsOf_8 ?_
      refine lv_icmp_ge (tgt := 43) hx hb dX2_seenCellsOf_11 (by decide) (fun ct => ?_) (fun ct => ?_)
      · have h := h.1 ct
        exact hKK _ _ h _ _ hP hD hS ls (lv_sub hl [0, 1, 2, 3] rfl)
      · have h := h.2 ct
        refine lv_aload_n hx hb dX2_seenCellsOf_14 rfl (lv_at hl 0 rfl) ?_
        refine gf_X2_31 hx hb hT hown hK hP 0 rfl rfl dX2_seenCellsOf_15 ?_
        refine lv_iload hx hb dX2_seenCellsOf_18 (lv_at hl 3 rfl) ?_
        obtain ⟨hi, h⟩ := h
        refine va_iald hx hb hK hP 5 0 rfl rfl hi dX2_seenCellsOf_20 ?_
        refine lv_iload_n hx hb dX2_seenCellsOf_21 rfl (lv_at hl 1 rfl) ?_
        refine lv_icmp_ne (tgt := 37) hx hb dX2_seenCellsOf_22 (by decide) (fun ct => ?_) (fun ct => ?_)
        · have h := h.1 ct
          refine lv_iinc (v := y4 + 1) (lv' := [(4, .int (y4 + 1)), (0, .ref (a 99)), (1, .int z1), (2, .long y2)]) hx hb dX2_seenCellsOf_37 hl (k := 3) rfl rfl (by decide) rfl (fun ls hl => ?_)
          refine lv_goto (tgt := 5) hx hb dX2_seenCellsOf_40 (by decide) ?_
          exact ih _ _ h _ _ hP hD hS ls (lv_sub hl [1, 2, 3, 0] rfl)
        · have h := h.2 ct
          refine lv_lload_n hx hb dX2_seenCellsOf_25 rfl (lv_at hl 2 rfl) ?_
          refine lv_lconst (v := 1) hx hb dX2_seenCellsOf_26 (by decide) ?_
          refine lv_aload_n hx hb dX2_seenCellsOf_27 rfl (lv_at hl 0 rfl) ?_
          refine gf_X2_28 hx hb hT hown hK hP 0 rfl rfl dX2_seenCellsOf_28 ?_
          refine lv_iload hx hb dX2_seenCellsOf_31 (lv_at hl 3 rfl) ?_
          obtain ⟨hi, h⟩ := h
          refine va_iald hx hb hK hP 4 0 rfl rfl hi dX2_seenCellsOf_33 ?_
          refine lv_lshl (v := jlshl 1 (Tf 5 y4.toNatClampNeg)) hx hb dX2_seenCellsOf_34 rfl ?_
          refine lv_lor hx hb dX2_seenCellsOf_35 ?_
          refine lv_topl (fun v1 ev1 => ?_)
          have h := h v1 ev1
          refine lv_lstore_n (lv' := [(2, .long v1), (0, .ref (a 99)), (1, .int z1), (4, .int y4)]) hx hb dX2_seenCellsOf_36 rfl hl (by decide) rfl (fun ls hl => ?_)
          refine lv_iinc (v := y4 + 1) (lv' := [(4, .int (y4 + 1)), (2, .long v1), (0, .ref (a 99)), (1, .int z1)]) hx hb dX2_seenCellsOf_37 hl (k := 3) rfl rfl (by decide) rfl (fun ls hl => ?_)
          refine lv_goto (tgt := 5) hx hb dX2_seenCellsOf_40 (by decide) ?_
          exact ih _ _ h _ _ hP hD hS ls (lv_sub hl [2, 3, 1, 0] rfl)
  refine lv_lconst (v := 0) hx hb dX2_seenCellsOf_0 (by decide) ?_
  refine lv_lstore_n (lv' := [(2, .long 0), (0, .ref (a 99)), (1, .int x1)]) hx hb dX2_seenCellsOf_1 rfl hl (by decide) rfl (fun ls hl => ?_)
  refine lv_iconst (v := 0) hx hb dX2_seenCellsOf_2 (by decide) ?_
  refine lv_istore (lv' := [(4, .int 0), (2, .long 0), (0, .ref (a 99)), (1, .int x1)]) hx hb dX2_seenCellsOf_3 hl (by decide) rfl (fun ls hl => ?_)
  obtain ⟨n4, h⟩ := h
  refine HL5 _ _ _ (fun v2 v3 h H locs hP hD hS ls hl => ?_) n4 _ _ h _ _ hP hD hS ls (lv_sub hl [2, 3, 1, 0] rfl)
  refine lv_lload_n hx hb dX2_seenCellsOf_43 rfl (lv_at hl 2 rfl) ?_
  exact rt_Wl hx hb hr hlk dX2_seenCellsOf_44 T hP hD hS h
