abbrev rm_X4_refuseBad : Room := { frames := 0, cells := 0, slots := 0, locals := 0 }
set_option maxRecDepth 100000 in
set_option maxHeartbeats 4000000 in
theorem c_X4_refuseBad (l : Launch) (G : va_G) (cs ts : Nat → Nat) (q : Nat → Nat → Nat) (sz : Nat)  (N : ZI) (D : ZI) (X : ZI) (PM : ZI) (PL : ZL)   (x1 : Int32) (post : Int32 → ZI → ZI → ZI → ZI → ZL → Prop) (h : w_X4_refuseBad N D X PM PL x1 post) : Met l yX4_refuseBad [.code yX4_refuseBad cX4_refuseBad 2 (some .int)] rm_X4_refuseBad (va_Pc [.ref (q 0 99), .int x1] (CP G cs ts (pW q cs N D X PM PL) sz)) (va_Qi (fun (r : Int32) (u : ZI × ZI × ZI × ZI × ZL) => post r u.1 u.2.1 u.2.2.1 u.2.2.2.1 u.2.2.2.2) (CB G (va_A (pW q cs N D X PM PL) sz) (fun u => (pW q cs u.1 u.2.1 u.2.2.1 u.2.2.2.1 u.2.2.2.2))) (va_A (pW q cs N D X PM PL) sz)) 0 0 (va_A (pW q cs N D X PM PL) sz) := by
  refine ax_W (Qc := fun A => va_Qi (fun (r : Int32) (u : ZI × ZI × ZI × ZI × ZL) => post r u.1 u.2.1 u.2.2.1 u.2.2.2.1 u.2.2.2.2) (CB G A (fun u => (pW q cs u.1 u.2.1 u.2.2.1 u.2.2.2.1 u.2.2.2.2))) A) (by decide) (Nat.le_of_ble_eq_true rfl) sz ?_
  intro p e s m args below meth c A hx hb hr hlk hml hown hT hC hnm H locs hP hD hS ls hl
  have hK := hC.2.1
  have hA := hC.2.2
  have hl : lv_has ls 2 [(0, .ref (q 0 99)), (1, .int x1)] := hl
  unfold w_X4_refuseBad at h
  refine lv_aload_n hx hb dX4_refuseBad_0 rfl (lv_at hl 0 rfl) ?_
  refine lv_dup hx hb dX4_refuseBad_1 rfl ?_
  refine gf_X4_41 hx hb hT hown hK hP 0 rfl rfl dX4_refuseBad_2 ?_
  refine lv_iconst (v := 1) hx hb dX4_refuseBad_5 (by decide) ?_
  refine lv_iadd hx hb dX4_refuseBad_6 ?_
  refine pf_X4_41 hx hb hT hown hK hP hD hS 0 rfl (Nat.le_of_ble_eq_true rfl) dX4_refuseBad_7 (fun H locs hP hD hS => ?_)
  obtain ⟨PM1, ePM1⟩ : ∃ z : ZI, z = mu PM 7 0 ((PM 7 0) + 1) := ⟨_, rfl⟩
  have h := h PM1 ePM1
  have hP : va_P G vwCl (pW q cs N D X PM1 PL) H := by rw [ePM1]; exact hP
  have hD : va_D A (pW q cs N D X PM1 PL) := by rw [ePM1]; exact hD
  refine lv_iload_n hx hb dX4_refuseBad_10 rfl (lv_at hl 1 rfl) ?_
  exact rt_Wi hx hb hr hlk dX4_refuseBad_11 (N, D, X, PM1, PL) hP hD hS h
abbrev rm_X4_table : Room := { frames := 2, cells := 0, slots := 0, locals := 44 }
set_option maxRecDepth 100000 in
set_option maxHeartbeats 4000000 in
theorem c_X4_table (l : Launch) (G : va_G) (cs ts : Nat → Nat) (q : Nat → Nat → Nat) (sz : Nat)  (N : ZI) (D : ZI) (X : ZI) (PM : ZI) (PL : ZL)   (x1 : Int32) (post : Int32 → ZI → ZI → ZI → ZI → ZL → Prop) (h : w_X4_table N D X PM PL x1 post) : Met l yX4_table [.code yX4_table cX4_table 3 (some .int)] rm_X4_table (va_Pc [.ref (q 0 99), .int x1] (CP G cs ts (pW q cs N D X PM PL) sz)) (va_Qi (fun (r : Int32) (u : ZI × ZI × ZI × ZI × ZL) => post r u.1 u.2.1 u.2.2.1 u.2.2.2.1 u.2.2.2.2) (CB G (va_A (pW q cs N D X PM PL) sz) (fun u => (pW q cs u.1 u.2.1 u.2.2.1 u.2.2.2.1 u.2.2.2.2))) (va_A (pW q cs N D X PM PL) sz)) 0 0 (va_A (pW q cs N D X PM PL) sz) := by
  refine ax_W (Qc := fun A => va_Qi (fun (r : Int32) (u : ZI × ZI × ZI × ZI × ZL) => post r u.1 u.2.1 u.2.2.1 u.2.2.2.1 u.2.2.2.2) (CB G A (fun u => (pW q cs u.1 u.2.1 u.2.2.1 u.2.2.2.1 u.2.2.2.2))) A) (by decide) (Nat.le_of_ble_eq_true rfl) sz ?_
  intro p e s m args below meth c A hx hb hr hlk hml hown hT hC hnm H locs hP hD hS ls hl
  have hK := hC.2.1
  have hA := hC.2.2
  have hl : lv_has ls 3 [(0, .ref (q 0 99)), (1, .int x1)] := hl
  unfold w_X4_table at h
  refine lv_iload_n hx hb dX4_table_0 rfl (lv_at hl 1 rfl) ?_
  refine lv_iconst (v := 0) hx hb dX4_table_1 (by decide) ?_
  refine lv_bipush (v := 12) hx hb dX4_table_2 (by decide) ?_
  refine cl_Si (rn_S (rest := []) hx hb hml hown hT hl.1 ck_X4_51 (c_X4_within l x1 0 12 _ h) ⟨rfl, rfl, (Nat.le_of_ble_eq_true rfl), (Nat.le_of_ble_eq_true rfl)⟩ ⟨Nat.zero_le _, Nat.zero_le _⟩ rfl rfl (Nat.le_of_ble_eq_true rfl) dX4_table_4) (fun r1 h => ?_)
  refine lv_if_ne (tgt := 17) hx hb dX4_table_7 (by decide) (fun ct => ?_) (fun ct => ?_)
  · have h := h.1 ct
    refine lv_aload_n hx hb dX4_table_17 rfl (lv_at hl 0 rfl) ?_
    refine gf_X4_10 hx hb hT hown hK hP 0 rfl rfl dX4_table_18 ?_
    refine wl_part (wr := List.filterMap (fun i : Nat => (pW q cs N D X PM PL)[i]?) [0, 9, 10, 11, 12, 13, 14, 15, 16, 17, 18, 19, 20]) (w2 := fun u => (pW q cs u D X PM PL)) [1, 2, 3, 4, 5, 6, 7, 8] [0, 9, 10, 11, 12, 13, 14, 15, 16, 17, 18, 19, 20] [0, 13, 14, 15, 16, 17, 18, 19, 20, 1, 2, 3, 4, 5, 6, 7, 8, 9, 10, 11, 12] (rn_VN (rest := []) (ci := 0) (wc := (tbW (q 1) cs N)) hx hb hml hown hT hl.1 hC hS (hP.sub [1, 2, 3, 4, 5, 6, 7, 8] rfl) (hD.sub [1, 2, 3, 4, 5, 6, 7, 8] (by decide) rfl) 0 rfl rfl rfl ck_X4_59 (c_X2_darkCells l G cs ts (q 1) H.size N  _ h) ⟨rfl, rfl, (Nat.le_of_ble_eq_true rfl), (Nat.le_of_ble_eq_true rfl)⟩ ⟨Nat.le_refl _, Nat.le_refl _⟩ rfl rfl (Nat.le_of_ble_eq_true rfl) dX4_table_21) hP hD hS hA rfl rfl rfl (by decide) rfl (fun _ => rfl) (fun r2 N3 H locs hP hD hS h => ?_)
    refine cl_Si (rn_S (rest := []) hx hb hml hown hT hl.1 ck_X4_63 (c_J13_bitCount_95d88 l r2 _ h) ⟨rfl, rfl, (Nat.le_of_ble_eq_true rfl), (Nat.le_of_ble_eq_true rfl)⟩ ⟨Nat.zero_le _, Nat.zero_le _⟩ rfl rfl (Nat.le_of_ble_eq_true rfl) dX4_table_24) (fun r4 h => ?_)
    refine lv_istore_n (lv' := [(2, .int r4), (0, .ref (q 0 99)), (1, .int x1)]) hx hb dX4_table_27 rfl hl (by decide) rfl (fun ls hl => ?_)
    refine lv_aload_n hx hb dX4_table_28 rfl (lv_at hl 1 rfl) ?_
    refine gf_X4_10 hx hb hT hown hK hP 0 rfl rfl dX4_table_29 ?_
    refine lv_iload_n hx hb dX4_table_32 rfl (lv_at hl 2 rfl) ?_
    refine wv_part (wr := List.filterMap (fun i : Nat => (pW q cs N3 D X PM PL)[i]?) [0, 9, 10, 11, 12, 13, 14, 15, 16, 17, 18, 19, 20]) (w2 := fun u => (pW q cs u D X PM PL)) [1, 2, 3, 4, 5, 6, 7, 8] [0, 9, 10, 11, 12, 13, 14, 15, 16, 17, 18, 19, 20] [0, 13, 14, 15, 16, 17, 18, 19, 20, 1, 2, 3, 4, 5, 6, 7, 8, 9, 10, 11, 12] (rn_VN (rest := []) (ci := 0) (wc := (tbW (q 1) cs N3)) hx hb hml hown hT hl.1 hC hS (hP.sub [1, 2, 3, 4, 5, 6, 7, 8] rfl) (hD.sub [1, 2, 3, 4, 5, 6, 7, 8] (by decide) rfl) 0 rfl rfl rfl ck_X4_69 (c_X2_beginAnew l G cs ts (q 1) H.size N3 x1 _ h) ⟨rfl, rfl, (Nat.le_of_ble_eq_true rfl), (Nat.le_of_ble_eq_true rfl)⟩ ⟨Nat.le_refl _, Nat.le_refl _⟩ rfl rfl (Nat.le_of_ble_eq_true rfl) dX4_table_33) hP hD hS hA rfl rfl rfl (by decide) rfl (fun _ => rfl) (fun N5 H locs hP hD hS h => ?_)
    refine lv_iload_n hx hb dX4_table_36 rfl (lv_at hl 0 rfl) ?_
    exact rt_Wi hx hb hr hlk dX4_table_37 (N5, D, X, PM, PL) hP hD hS h
  · have h := h.2 ct
    refine lv_aload_n hx hb dX4_table_10 rfl (lv_at hl 0 rfl) ?_
    refine lv_bipush (v := (-2)) hx hb dX4_table_11 (by decide) ?_
    refine wi_allP (rn_V (rest := []) (ci := 2) hx hb hml hown hT hl.1 hC hS hP hD 0 rfl rfl rfl ck_X4_55 (c_X4_refuseBad l G cs ts q H.size N D X PM PL (-2) _ h) ⟨rfl, rfl, (Nat.le_of_ble_eq_true rfl), (Nat.le_of_ble_eq_true rfl)⟩ ⟨Nat.le_refl _, Nat.le_refl _⟩ rfl rfl (Nat.le_of_ble_eq_true rfl) dX4_table_13) hD hS hA (fun r6 N7 D8 X9 PM10 PL11 H locs hP hD hS h => ?_)
    exact rt_Wi hx hb hr hlk dX4_table_16 (N7, D8, X9, PM10, PL11) hP hD hS h
abbrev rm_X4_cut : Room := { frames := 1, cells := 0, slots := 0, locals := 22 }
set_option maxRecDepth 100000 in
set_option maxHeartbeats 4000000 in
theorem c_X4_cut (l : Launch) (G : va_G) (cs ts : Nat → Nat) (q : Nat → Nat → Nat) (sz : Nat)  (N : ZI) (D : ZI) (X : ZI) (PM : ZI) (PL : ZL)   (x1 : Int32) (x2 : Int32) (post : Int32 → ZI → ZI → ZI → ZI → ZL → Prop) (h : w_X4_cut N D X PM PL x1 x2 post) : Met l yX4_cut [.code yX4_cut cX4_cut 4 (some .int)] rm_X4_cut (va_Pc [.ref (q 0 99), .int x1, .int x2] (CP G cs ts (pW q cs N D X PM PL) sz)) (va_Qi (fun (r : Int32) (u : ZI × ZI × ZI × ZI × ZL) => post r u.1 u.2.1 u.2.2.1 u.2.2.2.1 u.2.2.2.2) (CB G (va_A (pW q cs N D X PM PL) sz) (fun u => (pW q cs u.1 u.2.1 u.2.2.1 u.2.2.2.1 u.2.2.2.2))) (va_A (pW q cs N D X PM PL) sz)) 0 0 (va_A (pW q cs N D X PM PL) sz) := by
  refine ax_W (Qc := fun A => va_Qi (fun (r : Int32) (u : ZI × ZI × ZI × ZI × ZL) => post r u.1 u.2.1 u.2.2.1 u.2.2.2.1 u.2.2.2.2) (CB G A (fun u => (pW q cs u.1 u.2.1 u.2.2.1 u.2.2.2.1 u.2.2.2.2))) A) (by decide) (Nat.le_of_ble_eq_true rfl) sz ?_
  intro p e s m args below meth c A hx hb hr hlk hml hown hT hC hnm H locs hP hD hS ls hl
  have hK := hC.2.1
  have hA := hC.2.2
  have hl : lv_has ls 4 [(0, .ref (q 0 99)), (1, .int x1), (2, .int x2)] := hl
  unfold w_X4_cut at h
  refine lv_iload_n hx hb dX4_cut_0 rfl (lv_at hl 1 rfl) ?_
  refine lv_iconst (v := 0) hx hb dX4_cut_1 (by decide) ?_
  refine lv_iconst (v := 1) hx hb dX4_cut_2 (by decide) ?_
  refine cl_Si (rn_S (rest := []) hx hb hml hown hT hl.1 ck_X4_51 (c_X4_within l x1 0 1 _ h) ⟨rfl, rfl, (Nat.le_of_ble_eq_true rfl), (Nat.le_of_ble_eq_true rfl)⟩ ⟨Nat.zero_le _, Nat.zero_le _⟩ rfl rfl (Nat.le_of_ble_eq_true rfl) dX4_cut_3) (fun r1 h => ?_)
  refine lv_if_eq (tgt := 19) hx hb dX4_cut_6 (by decide) (fun ct => ?_) (fun ct => ?_)
  · have h := h.1 ct
    refine lv_aload_n hx hb dX4_cut_19 rfl (lv_at hl 0 rfl) ?_
    refine lv_bipush (v := (-2)) hx hb dX4_cut_20 (by decide) ?_
    refine wi_allP (rn_V (rest := []) (ci := 2) hx hb hml hown hT hl.1 hC hS hP hD 0 rfl rfl rfl ck_X4_55 (c_X4_refuseBad l G cs ts q H.size N D X PM PL (-2) _ h) ⟨rfl, rfl, (Nat.le_of_ble_eq_true rfl), (Nat.le_of_ble_eq_true rfl)⟩ ⟨Nat.le_refl _, Nat.le_refl _⟩ rfl rfl (Nat.le_of_ble_eq_true rfl) dX4_cut_22) hD hS hA (fun r2 N3 D4 X5 PM6 PL7 H locs hP hD hS h => ?_)
    exact rt_Wi hx hb hr hlk dX4_cut_25 (N3, D4, X5, PM6, PL7) hP hD hS h
  · have h := h.2 ct
    refine lv_iload_n hx hb dX4_cut_9 rfl (lv_at hl 2 rfl) ?_
    refine lv_iconst (v := 0) hx hb dX4_cut_10 (by decide) ?_
    refine ki_X4_73 hx hb hT hown dX4_cut_11 ?_
    refine cl_Si (rn_S (rest := []) hx hb hml hown hT hl.1 ck_X4_51 (c_X4_within l x2 0 65535 _ h) ⟨rfl, rfl, (Nat.le_of_ble_eq_true rfl), (Nat.le_of_ble_eq_true rfl)⟩ ⟨Nat.zero_le _, Nat.zero_le _⟩ rfl rfl (Nat.le_of_ble_eq_true rfl) dX4_cut_13) (fun r8 h => ?_)
    refine lv_if_ne (tgt := 26) hx hb dX4_cut_16 (by decide) (fun ct => ?_) (fun ct => ?_)
    · have h := h.1 ct
      refine lv_aload_n hx hb dX4_cut_26 rfl (lv_at hl 0 rfl) ?_
      refine gf_X4_10 hx hb hT hown hK hP 0 rfl rfl dX4_cut_27 ?_
      refine gf_X4_74 hx hb hT hown hK hP 1 rfl rfl dX4_cut_30 ?_
      refine lv_iload_n hx hb dX4_cut_33 rfl (lv_at hl 1 rfl) ?_
      obtain ⟨hi, h⟩ := h
      refine va_iald hx hb hK hP 2 0 rfl rfl hi dX4_cut_34 ?_
      refine lv_topi (fun v9 ev9 => ?_)
      have h := h v9 ev9
      refine lv_istore_n (lv' := [(3, .int v9), (0, .ref (q 0 99)), (1, .int x1), (2, .int x2)]) hx hb dX4_cut_35 rfl hl (by decide) rfl (fun ls hl => ?_)
      refine lv_aload_n hx hb dX4_cut_36 rfl (lv_at hl 1 rfl) ?_
      refine gf_X4_10 hx hb hT hown hK hP 0 rfl rfl dX4_cut_37 ?_
      refine gf_X4_74 hx hb hT hown hK hP 1 rfl rfl dX4_cut_40 ?_
      refine lv_iload_n hx hb dX4_cut_43 rfl (lv_at hl 2 rfl) ?_
      refine lv_iload_n hx hb dX4_cut_44 rfl (lv_at hl 3 rfl) ?_
      obtain ⟨hi, h⟩ := h
      refine va_iast hx hb hK hP hD hS 2 0 rfl rfl hi dX4_cut_45 (fun H locs hP hD hS => ?_)
      obtain ⟨N10, eN10⟩ : ∃ z : ZI, z = mu N 0 x1.toNatClampNeg x2 := ⟨_, rfl⟩
      have h := h N10 eN10
      have hP : va_P G vwCl (pW q cs N10 D X PM PL) H := by rw [eN10]; exact hP
      have hD : va_D A (pW q cs N10 D X PM PL) := by rw [eN10]; exact hD
      refine lv_aload_n hx hb dX4_cut_46 rfl (lv_at hl 1 rfl) ?_
      refine gf_X4_10 hx hb hT hown hK hP 0 rfl rfl dX4_cut_47 ?_
      refine lv_iconst (v := 0) hx hb dX4_cut_50 (by decide) ?_
      refine pf_X4_78 hx hb hT hown hK hP hD hS 1 rfl (Nat.le_of_ble_eq_true rfl) dX4_cut_51 (fun H locs hP hD hS => ?_)
      obtain ⟨N11, eN11⟩ : ∃ z : ZI, z = mu N10 10 0 0 := ⟨_, rfl⟩
      have h := h N11 eN11
      have hP : va_P G vwCl (pW q cs N11 D X PM PL) H := by rw [eN11]; exact hP
      have hD : va_D A (pW q cs N11 D X PM PL) := by rw [eN11]; exact hD
      refine lv_iload_n hx hb dX4_cut_54 rfl (lv_at hl 0 rfl) ?_
      exact rt_Wi hx hb hr hlk dX4_cut_55 (N11, D, X, PM, PL) hP hD hS h
    · have h := h.2 ct
      refine lv_aload_n hx hb dX4_cut_19 rfl (lv_at hl 0 rfl) ?_
      refine lv_bipush (v := (-2)) hx hb dX4_cut_20 (by decide) ?_
      refine wi_allP (rn_V (rest := []) (ci := 2) hx hb hml hown hT hl.1 hC hS hP hD 0 rfl rfl rfl ck_X4_55 (c_X4_refuseBad l G cs ts q H.size N D X PM PL (-2) _ h) ⟨rfl, rfl, (Nat.le_of_ble_eq_true rfl), (Nat.le_of_ble_eq_true rfl)⟩ ⟨Nat.le_refl _, Nat.le_refl _⟩ rfl rfl (Nat.le_of_ble_eq_true rfl) dX4_cut_22) hD hS hA (fun r12 N13 D14 X15 PM16 PL17 H locs hP hD hS h => ?_)
      exact rt_Wi hx hb hr hlk dX4_cut_25 (N13, D14, X15, PM16, PL17) hP hD hS h
abbrev rm_X4_dip : Room := { frames := 2, cells := 0, slots := 0, locals := 80 }
set_option maxRecDepth 100000 in
set_option maxHeartbeats 4000000 in
theorem c_X4_dip (l : Launch) (G : va_G) (cs ts : Nat → Nat) (q : Nat → Nat → Nat) (sz : Nat)  (N : ZI) (D : ZI) (X : ZI) (PM : ZI) (PL : ZL)   (x1 : Int32) (post : Int32 → ZI → ZI → ZI → ZI → ZL → Prop) (h : w_X4_dip N D X PM PL x1 post) : Met l yX4_dip [.code yX4_dip cX4_dip 3 (some .int)] rm_X4_dip (va_Pc [.ref (q 0 99), .int x1] (CP G cs ts (pW q cs N D X PM PL) sz)) (va_Qi (fun (r : Int32) (u : ZI × ZI × ZI × ZI × ZL) => post r u.1 u.2.1 u.2.2.1 u.2.2.2.1 u.2.2.2.2) (CB G (va_A (pW q cs N D X PM PL) sz) (fun u => (pW q cs u.1 u.2.1 u.2.2.1 u.2.2.2.1 u.2.2.2.2))) (va_A (pW q cs N D X PM PL) sz)) 0 0 (va_A (pW q cs N D X PM PL) sz) := by
  refine ax_W (Qc := fun A => va_Qi (fun (r : Int32) (u : ZI × ZI × ZI × ZI × ZL) => post r u.1 u.2.1 u.2.2.1 u.2.2.2.1 u.2.2.2.2) (CB G A (fun u => (pW q cs u.1 u.2.1 u.2.2.1 u.2.2.2.1 u.2.2.2.2))) A) (by decide) (Nat.le_of_ble_eq_true rfl) sz ?_
  intro p e s m args below meth c A hx hb hr hlk hml hown hT hC hnm H locs hP hD hS ls hl
  have hK := hC.2.1
  have hA := hC.2.2
  have hl : lv_has ls 3 [(0, .ref (q 0 99)), (1, .int x1)] := hl
  unfold w_X4_dip at h
  refine lv_iload_n hx hb dX4_dip_0 rfl (lv_at hl 1 rfl) ?_
  refine lv_iconst (v := 0) hx hb dX4_dip_1 (by decide) ?_
  refine lv_bipush (v := 12) hx hb dX4_dip_2 (by decide) ?_
  refine cl_Si (rn_S (rest := []) hx hb hml hown hT hl.1 ck_X4_51 (c_X4_within l x1 0 12 _ h) ⟨rfl, rfl, (Nat.le_of_ble_eq_true rfl), (Nat.le_of_ble_eq_true rfl)⟩ ⟨Nat.zero_le _, Nat.zero_le _⟩ rfl rfl (Nat.le_of_ble_eq_true rfl) dX4_dip_4) (fun r1 h => ?_)
  refine lv_if_ne (tgt := 17) hx hb dX4_dip_7 (by decide) (fun ct => ?_) (fun ct => ?_)
  · have h := h.1 ct
    refine lv_aload_n hx hb dX4_dip_17 rfl (lv_at hl 0 rfl) ?_
    refine gf_X4_10 hx hb hT hown hK hP 0 rfl rfl dX4_dip_18 ?_
    refine gf_X4_81 hx hb hT hown hK hP 1 rfl rfl dX4_dip_21 ?_
    refine lv_topi (fun v2 ev2 => ?_)
    have h := h v2 ev2
    refine lv_istore_n (lv' := [(2, .int v2), (0, .ref (q 0 99)), (1, .int x1)]) hx hb dX4_dip_24 rfl hl (by decide) rfl (fun ls hl => ?_)
    refine lv_aload_n hx hb dX4_dip_25 rfl (lv_at hl 1 rfl) ?_
    refine gf_X4_10 hx hb hT hown hK hP 0 rfl rfl dX4_dip_26 ?_
    refine wv_part (wr := List.filterMap (fun i : Nat => (pW q cs N D X PM PL)[i]?) [0, 9, 10, 11, 12, 13, 14, 15, 16, 17, 18, 19, 20]) (w2 := fun u => (pW q cs u D X PM PL)) [1, 2, 3, 4, 5, 6, 7, 8] [0, 9, 10, 11, 12, 13, 14, 15, 16, 17, 18, 19, 20] [0, 13, 14, 15, 16, 17, 18, 19, 20, 1, 2, 3, 4, 5, 6, 7, 8, 9, 10, 11, 12] (rn_VN (rest := []) (ci := 0) (wc := (tbW (q 1) cs N)) hx hb hml hown hT hl.1 hC hS (hP.sub [1, 2, 3, 4, 5, 6, 7, 8] rfl) (hD.sub [1, 2, 3, 4, 5, 6, 7, 8] (by decide) rfl) 0 rfl rfl rfl ck_X4_84 (c_X2_remember l G cs ts (q 1) H.size N  _ h) ⟨rfl, rfl, (Nat.le_of_ble_eq_true rfl), (Nat.le_of_ble_eq_true rfl)⟩ ⟨Nat.le_refl _, Nat.le_refl _⟩ rfl rfl (Nat.le_of_ble_eq_true rfl) dX4_dip_29) hP hD hS hA rfl rfl rfl (by decide) rfl (fun _ => rfl) (fun N3 H locs hP hD hS h => ?_)
    refine lv_aload_n hx hb dX4_dip_32 rfl (lv_at hl 1 rfl) ?_
    refine gf_X4_10 hx hb hT hown hK hP 0 rfl rfl dX4_dip_33 ?_
    refine lv_iload_n hx hb dX4_dip_36 rfl (lv_at hl 2 rfl) ?_
    refine pf_X4_81 hx hb hT hown hK hP hD hS 1 rfl (Nat.le_of_ble_eq_true rfl) dX4_dip_37 (fun H locs hP hD hS => ?_)
    obtain ⟨N4, eN4⟩ : ∃ z : ZI, z = mu N3 2 0 x1 := ⟨_, rfl⟩
    have h := h N4 eN4
    have hP : va_P G vwCl (pW q cs N4 D X PM PL) H := by rw [eN4]; exact hP
    have hD : va_D A (pW q cs N4 D X PM PL) := by rw [eN4]; exact hD
    refine lv_iload_n hx hb dX4_dip_40 rfl (lv_at hl 0 rfl) ?_
    exact rt_Wi hx hb hr hlk dX4_dip_41 (N4, D, X, PM, PL) hP hD hS h
  · have h := h.2 ct
    refine lv_aload_n hx hb dX4_dip_10 rfl (lv_at hl 0 rfl) ?_
    refine lv_bipush (v := (-2)) hx hb dX4_dip_11 (by decide) ?_
    refine wi_allP (rn_V (rest := []) (ci := 2) hx hb hml hown hT hl.1 hC hS hP hD 0 rfl rfl rfl ck_X4_55 (c_X4_refuseBad l G cs ts q H.size N D X PM PL (-2) _ h) ⟨rfl, rfl, (Nat.le_of_ble_eq_true rfl), (Nat.le_of_ble_eq_true rfl)⟩ ⟨Nat.le_refl _, Nat.le_refl _⟩ rfl rfl (Nat.le_of_ble_eq_true rfl) dX4_dip_13) hD hS hA (fun r5 N6 D7 X8 PM9 PL10 H locs hP hD hS h => ?_)
    exact rt_Wi hx hb hr hlk dX4_dip_16 (N6, D7, X8, PM9, PL10) hP hD hS h
abbrev rm_X4_refuseNo : Room := { frames := 0, cells := 0, slots := 0, locals := 0 }
set_option maxRecDepth 100000 in
set_option maxHeartbeats 4000000 in
theorem c_X4_refuseNo (l : Launch) (G : va_G) (cs ts : Nat → Nat) (q : Nat → Nat → Nat) (sz : Nat)  (N : ZI) (D : ZI) (X : ZI) (PM : ZI) (PL : ZL)    (post : Int32 → ZI → ZI → ZI → ZI → ZL → Prop) (h : w_X4_refuseNo N D X PM PL post) : Met l yX4_refuseNo [.code yX4_refuseNo cX4_refuseNo 1 (some .int)] rm_X4_refuseNo (va_Pc [.ref (q 0 99)] (CP G cs ts (pW q cs N D X PM PL) sz)) (va_Qi (fun (r : Int32) (u : ZI × ZI × ZI × ZI × ZL) => post r u.1 u.2.1 u.2.2.1 u.2.2.2.1 u.2.2.2.2) (CB G (va_A (pW q cs N D X PM PL) sz) (fun u => (pW q cs u.1 u.2.1 u.2.2.1 u.2.2.2.1 u.2.2.2.2))) (va_A (pW q cs N D X PM PL) sz)) 0 0 (va_A (pW q cs N D X PM PL) sz) := by
  refine ax_W (Qc := fun A => va_Qi (fun (r : Int32) (u : ZI × ZI × ZI × ZI × ZL) => post r u.1 u.2.1 u.2.2.1 u.2.2.2.1 u.2.2.2.2) (CB G A (fun u => (pW q cs u.1 u.2.1 u.2.2.1 u.2.2.2.1 u.2.2.2.2))) A) (by decide) (Nat.le_of_ble_eq_true rfl) sz ?_
  intro p e s m args below meth c A hx hb hr hlk hml hown hT hC hnm H locs hP hD hS ls hl
  have hK := hC.2.1
  have hA := hC.2.2
  have hl : lv_has ls 1 [(0, .ref (q 0 99))] := hl
  unfold w_X4_refuseNo at h
  refine lv_aload_n hx hb dX4_refuseNo_0 rfl (lv_at hl 0 rfl) ?_
  refine lv_dup hx hb dX4_refuseNo_1 rfl ?_
  refine gf_X4_45 hx hb hT hown hK hP 0 rfl rfl dX4_refuseNo_2 ?_
  refine lv_iconst (v := 1) hx hb dX4_refuseNo_5 (by decide) ?_
  refine lv_iadd hx hb dX4_refuseNo_6 ?_
  refine pf_X4_45 hx hb hT hown hK hP hD hS 0 rfl (Nat.le_of_ble_eq_true rfl) dX4_refuseNo_7 (fun H locs hP hD hS => ?_)
  obtain ⟨PM1, ePM1⟩ : ∃ z : ZI, z = mu PM 8 0 ((PM 8 0) + 1) := ⟨_, rfl⟩
  have h := h PM1 ePM1
  have hP : va_P G vwCl (pW q cs N D X PM1 PL) H := by rw [ePM1]; exact hP
  have hD : va_D A (pW q cs N D X PM1 PL) := by rw [ePM1]; exact hD
  refine lv_bipush (v := (-3)) hx hb dX4_refuseNo_10 (by decide) ?_
  exact rt_Wi hx hb hr hlk dX4_refuseNo_12 (N, D, X, PM1, PL) hP hD hS h
abbrev rm_X4_print : Room := { frames := 4, cells := 0, slots := 0, locals := 97 }
set_option maxRecDepth 100000 in
set_option maxHeartbeats 4000000 in
theorem c_X4_print (l : Launch) (G : va_G) (cs ts : Nat → Nat) (q : Nat → Nat → Nat) (sz : Nat)  (N : ZI) (D : ZI) (X : ZI) (PM : ZI) (PL : ZL)   (x1 : Int32) (x2 : Int32) (x3 : Int32) (x4 : Int32) (x5 : Int32) (post : Int32 → ZI → ZI → ZI → ZI → ZL → Prop) (h : w_X4_print N D X PM PL x1 x2 x3 x4 x5 post) : Met l yX4_print [.code yX4_print cX4_print 6 (some .int)] rm_X4_print (va_Pc [.ref (q 0 99), .int x1, .int x2, .int x3, .int x4, .int x5] (CP G cs ts (pW q cs N D X PM PL) sz)) (va_Qi (fun (r : Int32) (u : ZI × ZI × ZI × ZI × ZL) => post r u.1 u.2.1 u.2.2.1 u.2.2.2.1 u.2.2.2.2) (CB G (va_A (pW q cs N D X PM PL) sz) (fun u => (pW q cs u.1 u.2.1 u.2.2.1 u.2.2.2.1 u.2.2.2.2))) (va_A (pW q cs N D X PM PL) sz)) 0 0 (va_A (pW q cs N D X PM PL) sz) := by
  refine ax_W (Qc := fun A => va_Qi (fun (r : Int32) (u : ZI × ZI × ZI × ZI × ZL) => post r u.1 u.2.1 u.2.2.1 u.2.2.2.1 u.2.2.2.2) (CB G A (fun u => (pW q cs u.1 u.2.1 u.2.2.1 u.2.2.2.1 u.2.2.2.2))) A) (by decide) (Nat.le_of_ble_eq_true rfl) sz ?_
  intro p e s m args below meth c A hx hb hr hlk hml hown hT hC hnm H locs hP hD hS ls hl
  have hK := hC.2.1
  have hA := hC.2.2
  have hl : lv_has ls 6 [(0, .ref (q 0 99)), (1, .int x1), (2, .int x2), (3, .int x3), (4, .int x4), (5, .int x5)] := hl
  unfold w_X4_print at h
  refine lv_iload_n hx hb dX4_print_0 rfl (lv_at hl 1 rfl) ?_
  refine lv_iload_n hx hb dX4_print_1 rfl (lv_at hl 2 rfl) ?_
  refine lv_iload_n hx hb dX4_print_2 rfl (lv_at hl 3 rfl) ?_
  refine lv_iload hx hb dX4_print_3 (lv_at hl 4 rfl) ?_
  refine lv_iload hx hb dX4_print_5 (lv_at hl 5 rfl) ?_
  refine cl_Si (rn_S (rest := []) hx hb hml hown hT hl.1 ck_X4_87 (c_X4_isPrint l x1 x2 x3 x4 x5 _ h) ⟨rfl, rfl, (Nat.le_of_ble_eq_true rfl), (Nat.le_of_ble_eq_true rfl)⟩ ⟨Nat.zero_le _, Nat.zero_le _⟩ rfl rfl (Nat.le_of_ble_eq_true rfl) dX4_print_7) (fun r1 h => ?_)
  refine lv_if_ne (tgt := 20) hx hb dX4_print_10 (by decide) (fun ct => ?_) (fun ct => ?_)
  · have h := h.1 ct
    refine lv_aload_n hx hb dX4_print_20 rfl (lv_at hl 0 rfl) ?_
    refine gf_X4_10 hx hb hT hown hK hP 0 rfl rfl dX4_print_21 ?_
    refine gf_X4_81 hx hb hT hown hK hP 1 rfl rfl dX4_print_24 ?_
    refine lv_if_ne (tgt := 35) hx hb dX4_print_27 (by decide) (fun ct => ?_) (fun ct => ?_)
    · have h := h.1 ct
      refine lv_aload_n hx hb dX4_print_35 rfl (lv_at hl 0 rfl) ?_
      refine gf_X4_10 hx hb hT hown hK hP 0 rfl rfl dX4_print_36 ?_
      refine wv_part (wr := List.filterMap (fun i : Nat => (pW q cs N D X PM PL)[i]?) [0, 9, 10, 11, 12, 13, 14, 15, 16, 17, 18, 19, 20]) (w2 := fun u => (pW q cs u D X PM PL)) [1, 2, 3, 4, 5, 6, 7, 8] [0, 9, 10, 11, 12, 13, 14, 15, 16, 17, 18, 19, 20] [0, 13, 14, 15, 16, 17, 18, 19, 20, 1, 2, 3, 4, 5, 6, 7, 8, 9, 10, 11, 12] (rn_VN (rest := []) (ci := 0) (wc := (tbW (q 1) cs N)) hx hb hml hown hT hl.1 hC hS (hP.sub [1, 2, 3, 4, 5, 6, 7, 8] rfl) (hD.sub [1, 2, 3, 4, 5, 6, 7, 8] (by decide) rfl) 0 rfl rfl rfl ck_X4_84 (c_X2_remember l G cs ts (q 1) H.size N  _ h) ⟨rfl, rfl, (Nat.le_of_ble_eq_true rfl), (Nat.le_of_ble_eq_true rfl)⟩ ⟨Nat.le_refl _, Nat.le_refl _⟩ rfl rfl (Nat.le_of_ble_eq_true rfl) dX4_print_39) hP hD hS hA rfl rfl rfl (by decide) rfl (fun _ => rfl) (fun N2 H locs hP hD hS h => ?_)
      refine lv_aload_n hx hb dX4_print_42 rfl (lv_at hl 0 rfl) ?_
      refine gf_X4_10 hx hb hT hown hK hP 0 rfl rfl dX4_print_43 ?_
      refine lv_iload_n hx hb dX4_print_46 rfl (lv_at hl 1 rfl) ?_
      refine lv_iload_n hx hb dX4_print_47 rfl (lv_at hl 2 rfl) ?_
      refine lv_iload_n hx hb dX4_print_48 rfl (lv_at hl 3 rfl) ?_
      refine lv_iload hx hb dX4_print_49 (lv_at hl 4 rfl) ?_
      refine lv_iload hx hb dX4_print_51 (lv_at hl 5 rfl) ?_
      refine wi_part (wr := List.filterMap (fun i : Nat => (pW q cs N2 D X PM PL)[i]?) [0, 9, 10, 11, 12, 13, 14, 15, 16, 17, 18, 19, 20]) (w2 := fun u => (pW q cs u D X PM PL)) [1, 2, 3, 4, 5, 6, 7, 8] [0, 9, 10, 11, 12, 13, 14, 15, 16, 17, 18, 19, 20] [0, 13, 14, 15, 16, 17, 18, 19, 20, 1, 2, 3, 4, 5, 6, 7, 8, 9, 10, 11, 12] (rn_VN (rest := []) (ci := 0) (wc := (tbW (q 1) cs N2)) hx hb hml hown hT hl.1 hC hS (hP.sub [1, 2, 3, 4, 5, 6, 7, 8] rfl) (hD.sub [1, 2, 3, 4, 5, 6, 7, 8] (by decide) rfl) 0 rfl rfl rfl ck_X4_95 (c_X2_putPrint l G cs ts (q 1) H.size N2 x1 x2 x3 x4 x5 _ h) ⟨rfl, rfl, (Nat.le_of_ble_eq_true rfl), (Nat.le_of_ble_eq_true rfl)⟩ ⟨Nat.le_refl _, Nat.le_refl _⟩ rfl rfl (Nat.le_of_ble_eq_true rfl) dX4_print_53) hP hD hS hA rfl rfl rfl (by decide) rfl (fun _ => rfl) (fun r3 N4 H locs hP hD hS h => ?_)
      exact rt_Wi hx hb hr hlk dX4_print_56 (N4, D, X, PM, PL) hP hD hS h
    · have h := h.2 ct
      refine lv_aload_n hx hb dX4_print_30 rfl (lv_at hl 0 rfl) ?_
      refine wi_allP (rn_V (rest := []) (ci := 2) hx hb hml hown hT hl.1 hC hS hP hD 0 rfl rfl rfl ck_X4_91 (c_X4_refuseNo l G cs ts q H.size N D X PM PL  _ h) ⟨rfl, rfl, (Nat.le_of_ble_eq_true rfl), (Nat.le_of_ble_eq_true rfl)⟩ ⟨Nat.le_refl _, Nat.le_refl _⟩ rfl rfl (Nat.le_of_ble_eq_true rfl) dX4_print_31) hD hS hA (fun r5 N6 D7 X8 PM9 PL10 H locs hP hD hS h => ?_)
      exact rt_Wi hx hb hr hlk dX4_print_34 (N6, D7, X8, PM9, PL10) hP hD hS h
  · have h := h.2 ct
    refine lv_aload_n hx hb dX4_print_13 rfl (lv_at hl 0 rfl) ?_
    refine lv_bipush (v := (-2)) hx hb dX4_print_14 (by decide) ?_
    refine wi_allP (rn_V (rest := []) (ci := 2) hx hb hml hown hT hl.1 hC hS hP hD 0 rfl rfl rfl ck_X4_55 (c_X4_refuseBad l G cs ts q H.size N D X PM PL (-2) _ h) ⟨rfl, rfl, (Nat.le_of_ble_eq_true rfl), (Nat.le_of_ble_eq_true rfl)⟩ ⟨Nat.le_refl _, Nat.le_refl _⟩ rfl rfl (Nat.le_of_ble_eq_true rfl) dX4_print_16) hD hS hA (fun r11 N12 D13 X14 PM15 PL16 H locs hP hD hS h => ?_)
    exact rt_Wi hx hb hr hlk dX4_print_19 (N12, D13, X14, PM15, PL16) hP hD hS h
abbrev rm_X4_undo : Room := { frames := 2, cells := 0, slots := 0, locals := 80 }
set_option maxRecDepth 100000 in
set_option maxHeartbeats 4000000 in
theorem c_X4_undo (l : Launch) (G : va_G) (cs ts : Nat → Nat) (q : Nat → Nat → Nat) (sz : Nat)  (N : ZI) (D : ZI) (X : ZI) (PM : ZI) (PL : ZL)    (post : Int32 → ZI → ZI → ZI → ZI → ZL → Prop) (h : w_X4_undo N D X PM PL post) : Met l yX4_undo [.code yX4_undo cX4_undo 1 (some .int)] rm_X4_undo (va_Pc [.ref (q 0 99)] (CP G cs ts (pW q cs N D X PM PL) sz)) (va_Qi (fun (r : Int32) (u : ZI × ZI × ZI × ZI × ZL) => post r u.1 u.2.1 u.2.2.1 u.2.2.2.1 u.2.2.2.2) (CB G (va_A (pW q cs N D X PM PL) sz) (fun u => (pW q cs u.1 u.2.1 u.2.2.1 u.2.2.2.1 u.2.2.2.2))) (va_A (pW q cs N D X PM PL) sz)) 0 0 (va_A (pW q cs N D X PM PL) sz) := by
  refine ax_W (Qc := fun A => va_Qi (fun (r : Int32) (u : ZI × ZI × ZI × ZI × ZL) => post r u.1 u.2.1 u.2.2.1 u.2.2.2.1 u.2.2.2.2) (CB G A (fun u => (pW q cs u.1 u.2.1 u.2.2.1 u.2.2.2.1 u.2.2.2.2))) A) (by decide) (Nat.le_of_ble_eq_true rfl) sz ?_
  intro p e s m args below meth c A hx hb hr hlk hml hown hT hC hnm H locs hP hD hS ls hl
  have hK := hC.2.1
  have hA := hC.2.2
  have hl : lv_has ls 1 [(0, .ref (q 0 99))] := hl
  unfold w_X4_undo at h
  refine lv_aload_n hx hb dX4_undo_0 rfl (lv_at hl 0 rfl) ?_
  refine gf_X4_10 hx hb hT hown hK hP 0 rfl rfl dX4_undo_1 ?_
  refine gf_X4_78 hx hb hT hown hK hP 1 rfl rfl dX4_undo_4 ?_
  refine lv_if_ne (tgt := 15) hx hb dX4_undo_7 (by decide) (fun ct => ?_) (fun ct => ?_)
  · have h := h.1 ct
    refine lv_aload_n hx hb dX4_undo_15 rfl (lv_at hl 0 rfl) ?_
    refine gf_X4_10 hx hb hT hown hK hP 0 rfl rfl dX4_undo_16 ?_
    refine wv_part (wr := List.filterMap (fun i : Nat => (pW q cs N D X PM PL)[i]?) [0, 9, 10, 11, 12, 13, 14, 15, 16, 17, 18, 19, 20]) (w2 := fun u => (pW q cs u D X PM PL)) [1, 2, 3, 4, 5, 6, 7, 8] [0, 9, 10, 11, 12, 13, 14, 15, 16, 17, 18, 19, 20] [0, 13, 14, 15, 16, 17, 18, 19, 20, 1, 2, 3, 4, 5, 6, 7, 8, 9, 10, 11, 12] (rn_VN (rest := []) (ci := 0) (wc := (tbW (q 1) cs N)) hx hb hml hown hT hl.1 hC hS (hP.sub [1, 2, 3, 4, 5, 6, 7, 8] rfl) (hD.sub [1, 2, 3, 4, 5, 6, 7, 8] (by decide) rfl) 0 rfl rfl rfl ck_X4_99 (c_X2_stepBack l G cs ts (q 1) H.size N  _ h) ⟨rfl, rfl, (Nat.le_of_ble_eq_true rfl), (Nat.le_of_ble_eq_true rfl)⟩ ⟨Nat.le_refl _, Nat.le_refl _⟩ rfl rfl (Nat.le_of_ble_eq_true rfl) dX4_undo_19) hP hD hS hA rfl rfl rfl (by decide) rfl (fun _ => rfl) (fun N1 H locs hP hD hS h => ?_)
    refine lv_aload_n hx hb dX4_undo_22 rfl (lv_at hl 0 rfl) ?_
    refine gf_X4_10 hx hb hT hown hK hP 0 rfl rfl dX4_undo_23 ?_
    refine gf_X4_81 hx hb hT hown hK hP 1 rfl rfl dX4_undo_26 ?_
    exact rt_Wi hx hb hr hlk dX4_undo_29 (N1, D, X, PM, PL) hP hD hS h
  · have h := h.2 ct
    refine lv_aload_n hx hb dX4_undo_10 rfl (lv_at hl 0 rfl) ?_
    refine wi_allP (rn_V (rest := []) (ci := 2) hx hb hml hown hT hl.1 hC hS hP hD 0 rfl rfl rfl ck_X4_91 (c_X4_refuseNo l G cs ts q H.size N D X PM PL  _ h) ⟨rfl, rfl, (Nat.le_of_ble_eq_true rfl), (Nat.le_of_ble_eq_true rfl)⟩ ⟨Nat.le_refl _, Nat.le_refl _⟩ rfl rfl (Nat.le_of_ble_eq_true rfl) dX4_undo_11) hD hS hA (fun r2 N3 D4 X5 PM6 PL7 H locs hP hD hS h => ?_)
    exact rt_Wi hx hb hr hlk dX4_undo_14 (N3, D4, X5, PM6, PL7) hP hD hS h
abbrev rm_X4_refuseFull : Room := { frames := 0, cells := 0, slots := 0, locals := 0 }
set_option maxRecDepth 100000 in
set_option maxHeartbeats 4000000 in
theorem c_X4_refuseFull (l : Launch) (G : va_G) (cs ts : Nat → Nat) (q : Nat → Nat → Nat) (sz : Nat)  (N : ZI) (D : ZI) (X : ZI) (PM : ZI) (PL : ZL)    (post : Int32 → ZI → ZI → ZI → ZI → ZL → Prop) (h : w_X4_refuseFull N D X PM PL post) : Met l yX4_refuseFull [.code yX4_refuseFull cX4_refuseFull 1 (some .int)] rm_X4_refuseFull (va_Pc [.ref (q 0 99)] (CP G cs ts (pW q cs N D X PM PL) sz)) (va_Qi (fun (r : Int32) (u : ZI × ZI × ZI × ZI × ZL) => post r u.1 u.2.1 u.2.2.1 u.2.2.2.1 u.2.2.2.2) (CB G (va_A (pW q cs N D X PM PL) sz) (fun u => (pW q cs u.1 u.2.1 u.2.2.1 u.2.2.2.1 u.2.2.2.2))) (va_A (pW q cs N D X PM PL) sz)) 0 0 (va_A (pW q cs N D X PM PL) sz) := by
  refine ax_W (Qc := fun A => va_Qi (fun (r : Int32) (u : ZI × ZI × ZI × ZI × ZL) => post r u.1 u.2.1 u.2.2.1 u.2.2.2.1 u.2.2.2.2) (CB G A (fun u => (pW q cs u.1 u.2.1 u.2.2.1 u.2.2.2.1 u.2.2.2.2))) A) (by decide) (Nat.le_of_ble_eq_true rfl) sz ?_
  intro p e s m args below meth c A hx hb hr hlk hml hown hT hC hnm H locs hP hD hS ls hl
  have hK := hC.2.1
  have hA := hC.2.2
  have hl : lv_has ls 1 [(0, .ref (q 0 99))] := hl
  unfold w_X4_refuseFull at h
  refine lv_aload_n hx hb dX4_refuseFull_0 rfl (lv_at hl 0 rfl) ?_
  refine lv_dup hx hb dX4_refuseFull_1 rfl ?_
  refine gf_X4_48 hx hb hT hown hK hP 0 rfl rfl dX4_refuseFull_2 ?_
  refine lv_iconst (v := 1) hx hb dX4_refuseFull_5 (by decide) ?_
  refine lv_iadd hx hb dX4_refuseFull_6 ?_
  refine pf_X4_48 hx hb hT hown hK hP hD hS 0 rfl (Nat.le_of_ble_eq_true rfl) dX4_refuseFull_7 (fun H locs hP hD hS => ?_)
  obtain ⟨PM1, ePM1⟩ : ∃ z : ZI, z = mu PM 9 0 ((PM 9 0) + 1) := ⟨_, rfl⟩
  have h := h PM1 ePM1
  have hP : va_P G vwCl (pW q cs N D X PM1 PL) H := by rw [ePM1]; exact hP
  have hD : va_D A (pW q cs N D X PM1 PL) := by rw [ePM1]; exact hD
  refine lv_bipush (v := (-4)) hx hb dX4_refuseFull_10 (by decide) ?_
  exact rt_Wi hx hb hr hlk dX4_refuseFull_12 (N, D, X, PM1, PL) hP hD hS h
abbrev rm_X4_type : Room := { frames := 1, cells := 0, slots := 0, locals := 22 }
set_option maxRecDepth 100000 in
set_option maxHeartbeats 4000000 in
theorem c_X4_type (l : Launch) (G : va_G) (cs ts : Nat → Nat) (q : Nat → Nat → Nat) (sz : Nat)  (N : ZI) (D : ZI) (X : ZI) (PM : ZI) (PL : ZL)   (x1 : Int32) (post : Int32 → ZI → ZI → ZI → ZI → ZL → Prop) (h : w_X4_type N D X PM PL x1 post) : Met l yX4_type [.code yX4_type cX4_type 2 (some .int)] rm_X4_type (va_Pc [.ref (q 0 99), .int x1] (CP G cs ts (pW q cs N D X PM PL) sz)) (va_Qi (fun (r : Int32) (u : ZI × ZI × ZI × ZI × ZL) => post r u.1 u.2.1 u.2.2.1 u.2.2.2.1 u.2.2.2.2) (CB G (va_A (pW q cs N D X PM PL) sz) (fun u => (pW q cs u.1 u.2.1 u.2.2.1 u.2.2.2.1 u.2.2.2.2))) (va_A (pW q cs N D X PM PL) sz)) 0 0 (va_A (pW q cs N D X PM PL) sz) := by
  refine ax_W (Qc := fun A => va_Qi (fun (r : Int32) (u : ZI × ZI × ZI × ZI × ZL) => post r u.1 u.2.1 u.2.2.1 u.2.2.2.1 u.2.2.2.2) (CB G A (fun u => (pW q cs u.1 u.2.1 u.2.2.1 u.2.2.2.1 u.2.2.2.2))) A) (by decide) (Nat.le_of_ble_eq_true rfl) sz ?_
  intro p e s m args below meth c A hx hb hr hlk hml hown hT hC hnm H locs hP hD hS ls hl
  have hK := hC.2.1
  have hA := hC.2.2
  have hl : lv_has ls 2 [(0, .ref (q 0 99)), (1, .int x1)] := hl
  unfold w_X4_type at h
  refine lv_iload_n hx hb dX4_type_0 rfl (lv_at hl 1 rfl) ?_
  refine lv_iconst (v := 0) hx hb dX4_type_1 (by decide) ?_
  refine lv_bipush (v := 127) hx hb dX4_type_2 (by decide) ?_
  refine cl_Si (rn_S (rest := []) hx hb hml hown hT hl.1 ck_X4_51 (c_X4_within l x1 0 127 _ h) ⟨rfl, rfl, (Nat.le_of_ble_eq_true rfl), (Nat.le_of_ble_eq_true rfl)⟩ ⟨Nat.zero_le _, Nat.zero_le _⟩ rfl rfl (Nat.le_of_ble_eq_true rfl) dX4_type_4) (fun r1 h => ?_)
  refine lv_if_ne (tgt := 17) hx hb dX4_type_7 (by decide) (fun ct => ?_) (fun ct => ?_)
  · have h := h.1 ct
    refine lv_aload_n hx hb dX4_type_17 rfl (lv_at hl 0 rfl) ?_
    refine gf_X4_26 hx hb hT hown hK hP 0 rfl rfl dX4_type_18 ?_
    refine gf_X4_102 hx hb hT hown hK hP 17 rfl rfl dX4_type_21 ?_
    refine lv_sipush (v := 150) hx hb dX4_type_24 (by decide) ?_
    refine lv_icmp_lt (tgt := 35) hx hb dX4_type_27 (by decide) (fun ct => ?_) (fun ct => ?_)
    · have h := h.1 ct
      refine lv_aload_n hx hb dX4_type_35 rfl (lv_at hl 0 rfl) ?_
      refine gf_X4_26 hx hb hT hown hK hP 0 rfl rfl dX4_type_36 ?_
      refine lv_iload_n hx hb dX4_type_39 rfl (lv_at hl 1 rfl) ?_
      refine wv_part (wr := List.filterMap (fun i : Nat => (pW q cs N D X PM PL)[i]?) [0, 1, 2, 3, 4, 5, 6, 7, 8, 9, 10, 11, 12, 13, 14, 15, 16, 20]) (w2 := fun u => (pW q cs N D u PM PL)) [17, 18, 19] [0, 1, 2, 3, 4, 5, 6, 7, 8, 9, 10, 11, 12, 13, 14, 15, 16, 20] [0, 1, 2, 3, 4, 5, 6, 7, 8, 9, 10, 11, 12, 13, 14, 15, 16, 18, 19, 20, 17] (rn_VN (rest := []) (ci := 1) (wc := (txW (q 3) cs X)) hx hb hml hown hT hl.1 hC hS (hP.sub [17, 18, 19] rfl) (hD.sub [17, 18, 19] (by decide) rfl) 0 rfl rfl rfl ck_X4_108 (c_X3_addByte l G cs ts (q 3) H.size X x1 _ h) ⟨rfl, rfl, (Nat.le_of_ble_eq_true rfl), (Nat.le_of_ble_eq_true rfl)⟩ ⟨Nat.le_refl _, Nat.le_refl _⟩ rfl rfl (Nat.le_of_ble_eq_true rfl) dX4_type_40) hP hD hS hA rfl rfl rfl (by decide) rfl (fun _ => rfl) (fun X2 H locs hP hD hS h => ?_)
      refine lv_aload_n hx hb dX4_type_43 rfl (lv_at hl 0 rfl) ?_
      refine gf_X4_26 hx hb hT hown hK hP 0 rfl rfl dX4_type_44 ?_
      refine gf_X4_102 hx hb hT hown hK hP 17 rfl rfl dX4_type_47 ?_
      exact rt_Wi hx hb hr hlk dX4_type_50 (N, D, X2, PM, PL) hP hD hS h
    · have h := h.2 ct
      refine lv_aload_n hx hb dX4_type_30 rfl (lv_at hl 0 rfl) ?_
      refine wi_allP (rn_V (rest := []) (ci := 2) hx hb hml hown hT hl.1 hC hS hP hD 0 rfl rfl rfl ck_X4_105 (c_X4_refuseFull l G cs ts q H.size N D X PM PL  _ h) ⟨rfl, rfl, (Nat.le_of_ble_eq_true rfl), (Nat.le_of_ble_eq_true rfl)⟩ ⟨Nat.le_refl _, Nat.le_refl _⟩ rfl rfl (Nat.le_of_ble_eq_true rfl) dX4_type_31) hD hS hA (fun r3 N4 D5 X6 PM7 PL8 H locs hP hD hS h => ?_)
      exact rt_Wi hx hb hr hlk dX4_type_34 (N4, D5, X6, PM7, PL8) hP hD hS h
  · have h := h.2 ct
    refine lv_aload_n hx hb dX4_type_10 rfl (lv_at hl 0 rfl) ?_
    refine lv_bipush (v := (-2)) hx hb dX4_type_11 (by decide) ?_
    refine wi_allP (rn_V (rest := []) (ci := 2) hx hb hml hown hT hl.1 hC hS hP hD 0 rfl rfl rfl ck_X4_55 (c_X4_refuseBad l G cs ts q H.size N D X PM PL (-2) _ h) ⟨rfl, rfl, (Nat.le_of_ble_eq_true rfl), (Nat.le_of_ble_eq_true rfl)⟩ ⟨Nat.le_refl _, Nat.le_refl _⟩ rfl rfl (Nat.le_of_ble_eq_true rfl) dX4_type_13) hD hS hA (fun r9 N10 D11 X12 PM13 PL14 H locs hP hD hS h => ?_)
    exact rt_Wi hx hb hr hlk dX4_type_16 (N10, D11, X12, PM13, PL14) hP hD hS h
abbrev rm_X4_clear : Room := { frames := 0, cells := 0, slots := 0, locals := 0 }
set_option maxRecDepth 100000 in
set_option maxHeartbeats 4000000 in
theorem c_X4_clear (l : Launch) (G : va_G) (cs ts : Nat → Nat) (q : Nat → Nat → Nat) (sz : Nat)  (N : ZI) (D : ZI) (X : ZI) (PM : ZI) (PL : ZL)    (post : Int32 → ZI → ZI → ZI → ZI → ZL → Prop) (h : w_X4_clear N D X PM PL post) : Met l yX4_clear [.code yX4_clear cX4_clear 2 (some .int)] rm_X4_clear (va_Pc [.ref (q 0 99)] (CP G cs ts (pW q cs N D X PM PL) sz)) (va_Qi (fun (r : Int32) (u : ZI × ZI × ZI × ZI × ZL) => post r u.1 u.2.1 u.2.2.1 u.2.2.2.1 u.2.2.2.2) (CB G (va_A (pW q cs N D X PM PL) sz) (fun u => (pW q cs u.1 u.2.1 u.2.2.1 u.2.2.2.1 u.2.2.2.2))) (va_A (pW q cs N D X PM PL) sz)) 0 0 (va_A (pW q cs N D X PM PL) sz) := by
  refine ax_W (Qc := fun A => va_Qi (fun (r : Int32) (u : ZI × ZI × ZI × ZI × ZL) => post r u.1 u.2.1 u.2.2.1 u.2.2.2.1 u.2.2.2.2) (CB G A (fun u => (pW q cs u.1 u.2.1 u.2.2.1 u.2.2.2.1 u.2.2.2.2))) A) (by decide) (Nat.le_of_ble_eq_true rfl) sz ?_
  intro p e s m args below meth c A hx hb hr hlk hml hown hT hC hnm H locs hP hD hS ls hl
  have hK := hC.2.1
  have hA := hC.2.2
  have hl : lv_has ls 2 [(0, .ref (q 0 99))] := hl
  unfold w_X4_clear at h
  refine lv_aload_n hx hb dX4_clear_0 rfl (lv_at hl 0 rfl) ?_
  refine gf_X4_26 hx hb hT hown hK hP 0 rfl rfl dX4_clear_1 ?_
  refine gf_X4_102 hx hb hT hown hK hP 17 rfl rfl dX4_clear_4 ?_
  refine lv_topi (fun v1 ev1 => ?_)
  have h := h v1 ev1
  refine lv_istore_n (lv' := [(1, .int v1), (0, .ref (q 0 99))]) hx hb dX4_clear_7 rfl hl (by decide) rfl (fun ls hl => ?_)
  refine lv_aload_n hx hb dX4_clear_8 rfl (lv_at hl 1 rfl) ?_
  refine gf_X4_26 hx hb hT hown hK hP 0 rfl rfl dX4_clear_9 ?_
  refine lv_iconst (v := 0) hx hb dX4_clear_12 (by decide) ?_
  refine pf_X4_102 hx hb hT hown hK hP hD hS 17 rfl (Nat.le_of_ble_eq_true rfl) dX4_clear_13 (fun H locs hP hD hS => ?_)
  obtain ⟨X2, eX2⟩ : ∃ z : ZI, z = mu X 1 0 0 := ⟨_, rfl⟩
  have h := h X2 eX2
  have hP : va_P G vwCl (pW q cs N D X2 PM PL) H := by rw [eX2]; exact hP
  have hD : va_D A (pW q cs N D X2 PM PL) := by rw [eX2]; exact hD
  refine lv_iload_n hx hb dX4_clear_16 rfl (lv_at hl 0 rfl) ?_
  exact rt_Wi hx hb hr hlk dX4_clear_17 (N, D, X2, PM, PL) hP hD hS h
abbrev rm_X4_read : Room := { frames := 9, cells := 0, slots := 0, locals := 193 }
set_option maxRecDepth 100000 in
set_option maxHeartbeats 4000000 in
theorem c_X4_read (l : Launch) (G : va_G) (cs ts : Nat → Nat) (q : Nat → Nat → Nat) (sz : Nat)  (N : ZI) (D : ZI) (X : ZI) (PM : ZI) (PL : ZL)    (post : Int32 → ZI → ZI → ZI → ZI → ZL → Prop) (h : w_X4_read N D X PM PL post) : Met l yX4_read [.code yX4_read cX4_read 2 (some .int)] rm_X4_read (va_Pc [.ref (q 0 99)] (CP G cs ts (pW q cs N D X PM PL) sz)) (va_Qi (fun (r : Int32) (u : ZI × ZI × ZI × ZI × ZL) => post r u.1 u.2.1 u.2.2.1 u.2.2.2.1 u.2.2.2.2) (CB G (va_A (pW q cs N D X PM PL) sz) (fun u => (pW q cs u.1 u.2.1 u.2.2.1 u.2.2.2.1 u.2.2.2.2))) (va_A (pW q cs N D X PM PL) sz)) 0 0 (va_A (pW q cs N D X PM PL) sz) := by
  refine ax_W (Qc := fun A => va_Qi (fun (r : Int32) (u : ZI × ZI × ZI × ZI × ZL) => post r u.1 u.2.1 u.2.2.1 u.2.2.2.1 u.2.2.2.2) (CB G A (fun u => (pW q cs u.1 u.2.1 u.2.2.1 u.2.2.2.1 u.2.2.2.2))) A) (by decide) (Nat.le_of_ble_eq_true rfl) sz ?_
  intro p e s m args below meth c A hx hb hr hlk hml hown hT hC hnm H locs hP hD hS ls hl
  have hK := hC.2.1
  have hA := hC.2.2
  have hl : lv_has ls 2 [(0, .ref (q 0 99))] := hl
  unfold w_X4_read at h
  refine lv_aload_n hx hb dX4_read_0 rfl (lv_at hl 0 rfl) ?_
  refine gf_X4_26 hx hb hT hown hK hP 0 rfl rfl dX4_read_1 ?_
  refine lv_aload_n hx hb dX4_read_4 rfl (lv_at hl 0 rfl) ?_
  refine gf_X4_16 hx hb hT hown hK hP 0 rfl rfl dX4_read_5 ?_
  refine wi_part2 (wr := List.filterMap (fun i : Nat => (pW q cs N D X PM PL)[i]?) [0, 1, 2, 3, 4, 5, 6, 7, 8, 20]) (w2 := fun u1 u2 => (pW q cs N u2 u1 PM PL)) [17, 18, 19, 9, 10, 11, 12, 13, 14, 15, 16] [0, 1, 2, 3, 4, 5, 6, 7, 8, 20] [0, 1, 2, 3, 4, 5, 6, 7, 8, 13, 14, 15, 16, 17, 18, 19, 20, 10, 11, 12, 9] (rn_VN (rest := []) (ci := 1) (wc := (xtW (q 3) (q 2) cs X D)) hx hb hml hown hT hl.1 hC hS (hP.sub [17, 18, 19, 9, 10, 11, 12, 13, 14, 15, 16] rfl) (hD.sub [17, 18, 19, 9, 10, 11, 12, 13, 14, 15, 16] (by decide) rfl) 0 rfl rfl rfl ck_X4_111 (c_X3_readInto l G cs ts (q 3) (q 2) H.size X D  _ h) ⟨rfl, rfl, (Nat.le_of_ble_eq_true rfl), (Nat.le_of_ble_eq_true rfl)⟩ ⟨Nat.le_refl _, Nat.le_refl _⟩ rfl rfl (Nat.le_of_ble_eq_true rfl) dX4_read_8) hP hD hS hA rfl rfl rfl (by decide) rfl (fun _ _ => rfl) (fun r1 X2 D3 H locs hP hD hS h => ?_)
  refine lv_istore_n (lv' := [(1, .int r1), (0, .ref (q 0 99))]) hx hb dX4_read_11 rfl hl (by decide) rfl (fun ls hl => ?_)
  refine lv_iload_n hx hb dX4_read_12 rfl (lv_at hl 0 rfl) ?_
  refine lv_if_ge (tgt := 18) hx hb dX4_read_13 (by decide) (fun ct => ?_) (fun ct => ?_)
  · have h := h.1 ct
    refine lv_aload_n hx hb dX4_read_18 rfl (lv_at hl 1 rfl) ?_
    refine gf_X4_10 hx hb hT hown hK hP 0 rfl rfl dX4_read_19 ?_
    refine lv_aload_n hx hb dX4_read_22 rfl (lv_at hl 1 rfl) ?_
    refine gf_X4_16 hx hb hT hown hK hP 0 rfl rfl dX4_read_23 ?_
    refine wv_part (wr := List.filterMap (fun i : Nat => (pW q cs N D3 X2 PM PL)[i]?) [0, 17, 18, 19, 20]) (w2 := fun u => (pW q cs u D3 X2 PM PL)) [1, 2, 3, 4, 5, 6, 7, 8, 9, 10, 11, 12, 13, 14, 15, 16] [0, 17, 18, 19, 20] [0, 5, 6, 7, 8, 9, 10, 11, 12, 13, 14, 15, 16, 17, 18, 19, 20, 1, 2, 3, 4] (rn_VN (rest := []) (ci := 0) (wc := (ttW (q 1) (q 2) cs N D3)) hx hb hml hown hT hl.1 hC hS (hP.sub [1, 2, 3, 4, 5, 6, 7, 8, 9, 10, 11, 12, 13, 14, 15, 16] rfl) (hD.sub [1, 2, 3, 4, 5, 6, 7, 8, 9, 10, 11, 12, 13, 14, 15, 16] (by decide) rfl) 0 rfl rfl rfl ck_X4_115 (c_X2_takeOver l G cs ts (q 1) (q 2) H.size N D3  _ h) ⟨rfl, rfl, (Nat.le_of_ble_eq_true rfl), (Nat.le_of_ble_eq_true rfl)⟩ ⟨Nat.le_refl _, Nat.le_refl _⟩ rfl rfl (Nat.le_of_ble_eq_true rfl) dX4_read_26) hP hD hS hA rfl rfl rfl (by decide) rfl (fun _ => rfl) (fun N4 H locs hP hD hS h => ?_)
    refine lv_iload_n hx hb dX4_read_29 rfl (lv_at hl 0 rfl) ?_
    exact rt_Wi hx hb hr hlk dX4_read_30 (N4, D3, X2, PM, PL) hP hD hS h
  · have h := h.2 ct
    refine lv_iload_n hx hb dX4_read_16 rfl (lv_at hl 0 rfl) ?_
    exact rt_Wi hx hb hr hlk dX4_read_17 (N, D3, X2, PM, PL) hP hD hS h
abbrev rm_X4_dark : Room := { frames := 2, cells := 0, slots := 0, locals := 43 }
set_option maxRecDepth 100000 in
set_option maxHeartbeats 4000000 in
theorem c_X4_dark (l : Launch) (G : va_G) (cs ts : Nat → Nat) (q : Nat → Nat → Nat) (sz : Nat)  (N : ZI) (D : ZI) (X : ZI) (PM : ZI) (PL : ZL)   (x1 : Int32) (x2 : Int32) (post : Int32 → ZI → ZI → ZI → ZI → ZL → Prop) (h : w_X4_dark N D X PM PL x1 x2 post) : Met l yX4_dark [.code yX4_dark cX4_dark 3 (some .int)] rm_X4_dark (va_Pc [.ref (q 0 99), .int x1, .int x2] (CP G cs ts (pW q cs N D X PM PL) sz)) (va_Qi (fun (r : Int32) (u : ZI × ZI × ZI × ZI × ZL) => post r u.1 u.2.1 u.2.2.1 u.2.2.2.1 u.2.2.2.2) (CB G (va_A (pW q cs N D X PM PL) sz) (fun u => (pW q cs u.1 u.2.1 u.2.2.1 u.2.2.2.1 u.2.2.2.2))) (va_A (pW q cs N D X PM PL) sz)) 0 0 (va_A (pW q cs N D X PM PL) sz) := by
  refine ax_W (Qc := fun A => va_Qi (fun (r : Int32) (u : ZI × ZI × ZI × ZI × ZL) => post r u.1 u.2.1 u.2.2.1 u.2.2.2.1 u.2.2.2.2) (CB G A (fun u => (pW q cs u.1 u.2.1 u.2.2.1 u.2.2.2.1 u.2.2.2.2))) A) (by decide) (Nat.le_of_ble_eq_true rfl) sz ?_
  intro p e s m args below meth c A hx hb hr hlk hml hown hT hC hnm H locs hP hD hS ls hl
  have hK := hC.2.1
  have hA := hC.2.2
  have hl : lv_has ls 3 [(0, .ref (q 0 99)), (1, .int x1), (2, .int x2)] := hl
  unfold w_X4_dark at h
  refine lv_iload_n hx hb dX4_dark_0 rfl (lv_at hl 1 rfl) ?_
  refine lv_iload_n hx hb dX4_dark_1 rfl (lv_at hl 2 rfl) ?_
  refine cl_Si (rn_S (rest := []) hx hb hml hown hT hl.1 ck_X4_119 (c_X4_isPlace l x1 x2 _ h) ⟨rfl, rfl, (Nat.le_of_ble_eq_true rfl), (Nat.le_of_ble_eq_true rfl)⟩ ⟨Nat.zero_le _, Nat.zero_le _⟩ rfl rfl (Nat.le_of_ble_eq_true rfl) dX4_dark_2) (fun r1 h => ?_)
  refine lv_if_ne (tgt := 15) hx hb dX4_dark_5 (by decide) (fun ct => ?_) (fun ct => ?_)
  · have h := h.1 ct
    refine lv_aload_n hx hb dX4_dark_15 rfl (lv_at hl 0 rfl) ?_
    refine gf_X4_10 hx hb hT hown hK hP 0 rfl rfl dX4_dark_16 ?_
    refine gf_X4_123 hx hb hT hown hK hP 1 rfl rfl dX4_dark_19 ?_
    refine lv_bipush (v := 8) hx hb dX4_dark_22 (by decide) ?_
    refine lv_iload_n hx hb dX4_dark_24 rfl (lv_at hl 2 rfl) ?_
    refine lv_imul hx hb dX4_dark_25 ?_
    refine lv_iload_n hx hb dX4_dark_26 rfl (lv_at hl 1 rfl) ?_
    refine lv_iadd hx hb dX4_dark_27 ?_
    obtain ⟨hi, h⟩ := h
    refine va_iald hx hb hK hP 3 0 rfl rfl hi dX4_dark_28 ?_
    exact rt_Wi hx hb hr hlk dX4_dark_29 (N, D, X, PM, PL) hP hD hS h
  · have h := h.2 ct
    refine lv_aload_n hx hb dX4_dark_8 rfl (lv_at hl 0 rfl) ?_
    refine lv_bipush (v := (-2)) hx hb dX4_dark_9 (by decide) ?_
    refine wi_allP (rn_V (rest := []) (ci := 2) hx hb hml hown hT hl.1 hC hS hP hD 0 rfl rfl rfl ck_X4_55 (c_X4_refuseBad l G cs ts q H.size N D X PM PL (-2) _ h) ⟨rfl, rfl, (Nat.le_of_ble_eq_true rfl), (Nat.le_of_ble_eq_true rfl)⟩ ⟨Nat.le_refl _, Nat.le_refl _⟩ rfl rfl (Nat.le_of_ble_eq_true rfl) dX4_dark_11) hD hS hA (fun r2 N3 D4 X5 PM6 PL7 H locs hP hD hS h => ?_)
    exact rt_Wi hx hb hr hlk dX4_dark_14 (N3, D4, X5, PM6, PL7) hP hD hS h
abbrev rm_X4_looks : Room := { frames := 3, cells := 0, slots := 0, locals := 66 }
set_option maxRecDepth 100000 in
set_option maxHeartbeats 4000000 in
theorem c_X4_looks (l : Launch) (G : va_G) (cs ts : Nat → Nat) (q : Nat → Nat → Nat) (sz : Nat)  (N : ZI) (D : ZI) (X : ZI) (PM : ZI) (PL : ZL)   (x1 : Int32) (x2 : Int32) (post : Int32 → ZI → ZI → ZI → ZI → ZL → Prop) (h : w_X4_looks N D X PM PL x1 x2 post) : Met l yX4_looks [.code yX4_looks cX4_looks 3 (some .int)] rm_X4_looks (va_Pc [.ref (q 0 99), .int x1, .int x2] (CP G cs ts (pW q cs N D X PM PL) sz)) (va_Qi (fun (r : Int32) (u : ZI × ZI × ZI × ZI × ZL) => post r u.1 u.2.1 u.2.2.1 u.2.2.2.1 u.2.2.2.2) (CB G (va_A (pW q cs N D X PM PL) sz) (fun u => (pW q cs u.1 u.2.1 u.2.2.1 u.2.2.2.1 u.2.2.2.2))) (va_A (pW q cs N D X PM PL) sz)) 0 0 (va_A (pW q cs N D X PM PL) sz) := by
  refine ax_W (Qc := fun A => va_Qi (fun (r : Int32) (u : ZI × ZI × ZI × ZI × ZL) => post r u.1 u.2.1 u.2.2.1 u.2.2.2.1 u.2.2.2.2) (CB G A (fun u => (pW q cs u.1 u.2.1 u.2.2.1 u.2.2.2.1 u.2.2.2.2))) A) (by decide) (Nat.le_of_ble_eq_true rfl) sz ?_
  intro p e s m args below meth c A hx hb hr hlk hml hown hT hC hnm H locs hP hD hS ls hl
  have hK := hC.2.1
  have hA := hC.2.2
  have hl : lv_has ls 3 [(0, .ref (q 0 99)), (1, .int x1), (2, .int x2)] := hl
  unfold w_X4_looks at h
  refine lv_iload_n hx hb dX4_looks_0 rfl (lv_at hl 1 rfl) ?_
  refine lv_iconst (v := 0) hx hb dX4_looks_1 (by decide) ?_
  refine lv_iconst (v := 1) hx hb dX4_looks_2 (by decide) ?_
  refine cl_Si (rn_S (rest := []) hx hb hml hown hT hl.1 ck_X4_51 (c_X4_within l x1 0 1 _ h) ⟨rfl, rfl, (Nat.le_of_ble_eq_true rfl), (Nat.le_of_ble_eq_true rfl)⟩ ⟨Nat.zero_le _, Nat.zero_le _⟩ rfl rfl (Nat.le_of_ble_eq_true rfl) dX4_looks_3) (fun r1 h => ?_)
  refine lv_if_eq (tgt := 18) hx hb dX4_looks_6 (by decide) (fun ct => ?_) (fun ct => ?_)
  · have h := h.1 ct
    refine lv_aload_n hx hb dX4_looks_18 rfl (lv_at hl 0 rfl) ?_
    refine lv_bipush (v := (-2)) hx hb dX4_looks_19 (by decide) ?_
    refine wi_allP (rn_V (rest := []) (ci := 2) hx hb hml hown hT hl.1 hC hS hP hD 0 rfl rfl rfl ck_X4_55 (c_X4_refuseBad l G cs ts q H.size N D X PM PL (-2) _ h) ⟨rfl, rfl, (Nat.le_of_ble_eq_true rfl), (Nat.le_of_ble_eq_true rfl)⟩ ⟨Nat.le_refl _, Nat.le_refl _⟩ rfl rfl (Nat.le_of_ble_eq_true rfl) dX4_looks_21) hD hS hA (fun r2 N3 D4 X5 PM6 PL7 H locs hP hD hS h => ?_)
    exact rt_Wi hx hb hr hlk dX4_looks_24 (N3, D4, X5, PM6, PL7) hP hD hS h
  · have h := h.2 ct
    refine lv_iload_n hx hb dX4_looks_9 rfl (lv_at hl 2 rfl) ?_
    refine lv_iconst (v := 0) hx hb dX4_looks_10 (by decide) ?_
    refine lv_iconst (v := 3) hx hb dX4_looks_11 (by decide) ?_
    refine cl_Si (rn_S (rest := []) hx hb hml hown hT hl.1 ck_X4_51 (c_X4_within l x2 0 3 _ h) ⟨rfl, rfl, (Nat.le_of_ble_eq_true rfl), (Nat.le_of_ble_eq_true rfl)⟩ ⟨Nat.zero_le _, Nat.zero_le _⟩ rfl rfl (Nat.le_of_ble_eq_true rfl) dX4_looks_12) (fun r8 h => ?_)
    refine lv_if_ne (tgt := 25) hx hb dX4_looks_15 (by decide) (fun ct => ?_) (fun ct => ?_)
    · have h := h.1 ct
      refine lv_aload_n hx hb dX4_looks_25 rfl (lv_at hl 0 rfl) ?_
      refine gf_X4_10 hx hb hT hown hK hP 0 rfl rfl dX4_looks_26 ?_
      refine gf_X4_74 hx hb hT hown hK hP 1 rfl rfl dX4_looks_29 ?_
      refine lv_iload_n hx hb dX4_looks_32 rfl (lv_at hl 1 rfl) ?_
      obtain ⟨hi, h⟩ := h
      refine va_iald hx hb hK hP 2 0 rfl rfl hi dX4_looks_33 ?_
      refine lv_iload_n hx hb dX4_looks_34 rfl (lv_at hl 2 rfl) ?_
      refine cl_Si (rn_SN (rest := []) hx hb hml hown hT hl.1 ck_X4_126 (c_X1_printed l (N 0 x1.toNatClampNeg) x2 _ h) ⟨rfl, rfl, (Nat.le_of_ble_eq_true rfl), (Nat.le_of_ble_eq_true rfl)⟩ ⟨Nat.zero_le _, Nat.zero_le _⟩ rfl rfl (Nat.le_of_ble_eq_true rfl) dX4_looks_35) (fun r9 h => ?_)
      exact rt_Wi hx hb hr hlk dX4_looks_38 (N, D, X, PM, PL) hP hD hS h
    · have h := h.2 ct
      refine lv_aload_n hx hb dX4_looks_18 rfl (lv_at hl 0 rfl) ?_
      refine lv_bipush (v := (-2)) hx hb dX4_looks_19 (by decide) ?_
      refine wi_allP (rn_V (rest := []) (ci := 2) hx hb hml hown hT hl.1 hC hS hP hD 0 rfl rfl rfl ck_X4_55 (c_X4_refuseBad l G cs ts q H.size N D X PM PL (-2) _ h) ⟨rfl, rfl, (Nat.le_of_ble_eq_true rfl), (Nat.le_of_ble_eq_true rfl)⟩ ⟨Nat.le_refl _, Nat.le_refl _⟩ rfl rfl (Nat.le_of_ble_eq_true rfl) dX4_looks_21) hD hS hA (fun r10 N11 D12 X13 PM14 PL15 H locs hP hD hS h => ?_)
      exact rt_Wi hx hb hr hlk dX4_looks_24 (N11, D12, X13, PM14, PL15) hP hD hS h
abbrev rm_X4_alike : Room := { frames := 3, cells := 0, slots := 0, locals := 66 }
set_option maxRecDepth 100000 in
set_option maxHeartbeats 4000000 in
theorem c_X4_alike (l : Launch) (G : va_G) (cs ts : Nat → Nat) (q : Nat → Nat → Nat) (sz : Nat)  (N : ZI) (D : ZI) (X : ZI) (PM : ZI) (PL : ZL)   (x1 : Int32) (post : Int32 → ZI → ZI → ZI → ZI → ZL → Prop) (h : w_X4_alike N D X PM PL x1 post) : Met l yX4_alike [.code yX4_alike cX4_alike 5 (some .int)] rm_X4_alike (va_Pc [.ref (q 0 99), .int x1] (CP G cs ts (pW q cs N D X PM PL) sz)) (va_Qi (fun (r : Int32) (u : ZI × ZI × ZI × ZI × ZL) => post r u.1 u.2.1 u.2.2.1 u.2.2.2.1 u.2.2.2.2) (CB G (va_A (pW q cs N D X PM PL) sz) (fun u => (pW q cs u.1 u.2.1 u.2.2.1 u.2.2.2.1 u.2.2.2.2))) (va_A (pW q cs N D X PM PL) sz)) 0 0 (va_A (pW q cs N D X PM PL) sz) := by
  refine ax_W (Qc := fun A => va_Qi (fun (r : Int32) (u : ZI × ZI × ZI × ZI × ZL) => post r u.1 u.2.1 u.2.2.1 u.2.2.2.1 u.2.2.2.2) (CB G A (fun u => (pW q cs u.1 u.2.1 u.2.2.1 u.2.2.2.1 u.2.2.2.2))) A) (by decide) (Nat.le_of_ble_eq_true rfl) sz ?_
  intro p e s m args below meth c A hx hb hr hlk hml hown hT hC hnm H locs hP hD hS ls hl
  have hK := hC.2.1
  have hA := hC.2.2
  have hl : lv_has ls 5 [(0, .ref (q 0 99)), (1, .int x1)] := hl
  unfold w_X4_alike at h
  have HL35 : ∀ (Nf : ZI) (Df : ZI) (Xf : ZI) (PMf : ZI) (PLf : ZL) (z1 : Int32) (z2 : Int32) (K : Int32 → Int32 → Prop), (∀  (y3 : Int32) (y4 : Int32), K y3 y4 → ∀ (H : Heap) (locs : List Loc), va_P G vwCl (pW q cs Nf Df Xf PMf PLf) H → va_D A (pW q cs Nf Df Xf PMf PLf) → va_S A s.heap H locs → ∀ ls : Array Slot, lv_has ls 5 [(0, .ref (q 0 99)), (1, .int z1), (2, .int z2), (3, .int y3), (4, .int y4)] → W p l e rm_X4_alike s m args below meth c H locs 0 0 (MQ below (va_Qi (fun (r : Int32) (u : ZI × ZI × ZI × ZI × ZL) => post r u.1 u.2.1 u.2.2.1 u.2.2.2.1 u.2.2.2.2) (CB G A (fun u => (pW q cs u.1 u.2.1 u.2.2.1 u.2.2.2.1 u.2.2.2.2))) A) args s 0 0 A) (F0 m 72 ls [])) → ∀ (n : Nat)  (y3 : Int32) (y4 : Int32), itF (w_X4_alike_L35 Nf Df Xf PMf PLf z1 z2 post K) (fun _ _ => False) n y3 y4 → ∀ (H : Heap) (locs : List Loc), va_P G vwCl (pW q cs Nf Df Xf PMf PLf) H → va_D A (pW q cs Nf Df Xf PMf PLf) → va_S A s.heap H locs → ∀ ls : Array Slot, lv_has ls 5 [(0, .ref (q 0 99)), (1, .int z1), (2, .int z2), (3, .int y3), (4, .int y4)] → W p l e rm_X4_alike s m args below meth c H locs 0 0 (MQ below (va_Qi (fun (r : Int32) (u : ZI × ZI × ZI × ZI × ZL) => post r u.1 u.2.1 u.2.2.1 u.2.2.2.1 u.2.2.2.2) (CB G A (fun u => (pW q cs u.1 u.2.1 u.2.2.1 u.2.2.2.1 u.2.2.2.2))) A) args s 0 0 A) (F0 m 35 ls []) := by
    intro Nf Df Xf PMf PLf z1 z2 K hKK n
    induction n with
    | zero =>
      intro y3 y4 h
      exact absurd h id
    | succ n ih =>
      intro y3 y4 h H locs hP hD hS ls hl
      have h : w_X4_alike_L35 Nf Df Xf PMf PLf z1 z2 post K (itF (w_X4_alike_L35 Nf Df Xf PMf PLf z1 z2 post K) (fun _ _ => False) n) y3 y4 := h
      generalize itF (w_X4_alike_L35 Nf Df Xf PMf PLf z1 z2 post K) (fun _ _ => False) n = rec at h ih
      unfold w_X4_alike_L35 at h
      refine lv_iload hx hb dX4_alike_35 (lv_at hl 4 rfl) ?_
      refine lv_iconst (v := 3) hx hb dX4_alike_37 (by decide) ?_
      refine lv_icmp_gt (tgt := 72) hx hb dX4_alike_38 (by decide) (fun ct => ?_) (fun ct => ?_)
      · have h := h.1 ct
        exact hKK _ _ h _ _ hP hD hS ls (lv_sub hl [0, 1, 2, 3, 4] rfl)
      · have h := h.2 ct
        refine lv_aload_n hx hb dX4_alike_41 rfl (lv_at hl 0 rfl) ?_
        refine gf_X4_10 hx hb hT hown hK hP 0 rfl rfl dX4_alike_42 ?_
        refine gf_X4_74 hx hb hT hown hK hP 1 rfl rfl dX4_alike_45 ?_
        refine lv_iload_n hx hb dX4_alike_48 rfl (lv_at hl 1 rfl) ?_
        obtain ⟨hi, h⟩ := h
        refine va_iald hx hb hK hP 2 0 rfl rfl hi dX4_alike_49 ?_
        refine lv_iload hx hb dX4_alike_50 (lv_at hl 4 rfl) ?_
        refine cl_Si (rn_SN (rest := []) hx hb hml hown hT hl.1 ck_X4_126 (c_X1_printed l (Nf 0 z1.toNatClampNeg) y4 _ h) ⟨rfl, rfl, (Nat.le_of_ble_eq_true rfl), (Nat.le_of_ble_eq_true rfl)⟩ ⟨Nat.zero_le _, Nat.zero_le _⟩ rfl rfl (Nat.le_of_ble_eq_true rfl) dX4_alike_52) (fun r3 h => ?_)
        refine lv_iload_n hx hb dX4_alike_55 rfl (lv_at hl 2 rfl) ?_
        refine lv_icmp_ne (tgt := 66) hx hb dX4_alike_56 (by decide) (fun ct => ?_) (fun ct => ?_)
        · have h := h.1 ct
          refine lv_iinc (v := y4 + 1) (lv' := [(4, .int (y4 + 1)), (0, .ref (q 0 99)), (1, .int z1), (2, .int z2), (3, .int y3)]) hx hb dX4_alike_66 hl (k := 4) rfl rfl (by decide) rfl (fun ls hl => ?_)
          refine lv_goto (tgt := 35) hx hb dX4_alike_69 (by decide) ?_
          exact ih _ _ h _ _ hP hD hS ls (lv_sub hl [1, 2, 3, 4, 0] rfl)
        · have h := h.2 ct
          refine lv_iload_n hx hb dX4_alike_59 rfl (lv_at hl 3 rfl) ?_
          refine lv_iconst (v := 1) hx hb dX4_alike_60 (by decide) ?_
          refine lv_iload hx hb dX4_alike_61 (lv_at hl 4 rfl) ?_
          refine lv_ishl hx hb dX4_alike_63 ?_
          refine lv_ior hx hb dX4_alike_64 ?_
          refine lv_topi (fun v4 ev4 => ?_)
          have h := h v4 ev4
          refine lv_istore_n (lv' := [(3, .int v4), (0, .ref (q 0 99)), (1, .int z1), (2, .int z2), (4, .int y4)]) hx hb dX4_alike_65 rfl hl (by decide) rfl (fun ls hl => ?_)
          refine lv_iinc (v := y4 + 1) (lv' := [(4, .int (y4 + 1)), (3, .int v4), (0, .ref (q 0 99)), (1, .int z1), (2, .int z2)]) hx hb dX4_alike_66 hl (k := 4) rfl rfl (by decide) rfl (fun ls hl => ?_)
          refine lv_goto (tgt := 35) hx hb dX4_alike_69 (by decide) ?_
          exact ih _ _ h _ _ hP hD hS ls (lv_sub hl [2, 3, 4, 1, 0] rfl)
  refine lv_iload_n hx hb dX4_alike_0 rfl (lv_at hl 1 rfl) ?_
  refine lv_iconst (v := 0) hx hb dX4_alike_1 (by decide) ?_
  refine lv_iconst (v := 1) hx hb dX4_alike_2 (by decide) ?_
  refine cl_Si (rn_S (rest := []) hx hb hml hown hT hl.1 ck_X4_51 (c_X4_within l x1 0 1 _ h) ⟨rfl, rfl, (Nat.le_of_ble_eq_true rfl), (Nat.le_of_ble_eq_true rfl)⟩ ⟨Nat.zero_le _, Nat.zero_le _⟩ rfl rfl (Nat.le_of_ble_eq_true rfl) dX4_alike_3) (fun r1 h => ?_)
  refine lv_if_ne (tgt := 16) hx hb dX4_alike_6 (by decide) (fun ct => ?_) (fun ct => ?_)
  · have h := h.1 ct
    refine lv_aload_n hx hb dX4_alike_16 rfl (lv_at hl 0 rfl) ?_
    refine gf_X4_10 hx hb hT hown hK hP 0 rfl rfl dX4_alike_17 ?_
    refine gf_X4_74 hx hb hT hown hK hP 1 rfl rfl dX4_alike_20 ?_
    refine lv_iload_n hx hb dX4_alike_23 rfl (lv_at hl 1 rfl) ?_
    obtain ⟨hi, h⟩ := h
    refine va_iald hx hb hK hP 2 0 rfl rfl hi dX4_alike_24 ?_
    refine lv_iconst (v := 0) hx hb dX4_alike_25 (by decide) ?_
    refine cl_Si (rn_SN (rest := []) hx hb hml hown hT hl.1 ck_X4_126 (c_X1_printed l (N 0 x1.toNatClampNeg) 0 _ h) ⟨rfl, rfl, (Nat.le_of_ble_eq_true rfl), (Nat.le_of_ble_eq_true rfl)⟩ ⟨Nat.zero_le _, Nat.zero_le _⟩ rfl rfl (Nat.le_of_ble_eq_true rfl) dX4_alike_26) (fun r2 h => ?_)
    refine lv_istore_n (lv' := [(2, .int r2), (0, .ref (q 0 99)), (1, .int x1)]) hx hb dX4_alike_29 rfl hl (by decide) rfl (fun ls hl => ?_)
    refine lv_iconst (v := 0) hx hb dX4_alike_30 (by decide) ?_
    refine lv_istore_n (lv' := [(3, .int 0), (2, .int r2), (0, .ref (q 0 99)), (1, .int x1)]) hx hb dX4_alike_31 rfl hl (by decide) rfl (fun ls hl => ?_)
    refine lv_iconst (v := 0) hx hb dX4_alike_32 (by decide) ?_
    refine lv_istore (lv' := [(4, .int 0), (3, .int 0), (2, .int r2), (0, .ref (q 0 99)), (1, .int x1)]) hx hb dX4_alike_33 hl (by decide) rfl (fun ls hl => ?_)
    obtain ⟨n7, h⟩ := h
    refine HL35 _ _ _ _ _ _ _ _ (fun v5 v6 h H locs hP hD hS ls hl => ?_) n7 _ _ h _ _ hP hD hS ls (lv_sub hl [3, 4, 2, 1, 0] rfl)
    refine lv_iload_n hx hb dX4_alike_72 rfl (lv_at hl 3 rfl) ?_
    exact rt_Wi hx hb hr hlk dX4_alike_73 (N, D, X, PM, PL) hP hD hS h
  · have h := h.2 ct
    refine lv_aload_n hx hb dX4_alike_9 rfl (lv_at hl 0 rfl) ?_
    refine lv_bipush (v := (-2)) hx hb dX4_alike_10 (by decide) ?_
    refine wi_allP (rn_V (rest := []) (ci := 2) hx hb hml hown hT hl.1 hC hS hP hD 0 rfl rfl rfl ck_X4_55 (c_X4_refuseBad l G cs ts q H.size N D X PM PL (-2) _ h) ⟨rfl, rfl, (Nat.le_of_ble_eq_true rfl), (Nat.le_of_ble_eq_true rfl)⟩ ⟨Nat.le_refl _, Nat.le_refl _⟩ rfl rfl (Nat.le_of_ble_eq_true rfl) dX4_alike_12) hD hS hA (fun r8 N9 D10 X11 PM12 PL13 H locs hP hD hS h => ?_)
    exact rt_Wi hx hb hr hlk dX4_alike_15 (N9, D10, X11, PM12, PL13) hP hD hS h
abbrev rm_X4_adds : Room := { frames := 4, cells := 0, slots := 0, locals := 97 }
set_option maxRecDepth 100000 in
set_option maxHeartbeats 4000000 in
theorem c_X4_adds (l : Launch) (G : va_G) (cs ts : Nat → Nat) (q : Nat → Nat → Nat) (sz : Nat)  (N : ZI) (D : ZI) (X : ZI) (PM : ZI) (PL : ZL)   (x1 : Int32) (x2 : Int32) (x3 : Int32) (x4 : Int32) (x5 : Int32) (post : Int32 → ZI → ZI → ZI → ZI → ZL → Prop) (h : w_X4_adds N D X PM PL x1 x2 x3 x4 x5 post) : Met l yX4_adds [.code yX4_adds cX4_adds 6 (some .int)] rm_X4_adds (va_Pc [.ref (q 0 99), .int x1, .int x2, .int x3, .int x4, .int x5] (CP G cs ts (pW q cs N D X PM PL) sz)) (va_Qi (fun (r : Int32) (u : ZI × ZI × ZI × ZI × ZL) => post r u.1 u.2.1 u.2.2.1 u.2.2.2.1 u.2.2.2.2) (CB G (va_A (pW q cs N D X PM PL) sz) (fun u => (pW q cs u.1 u.2.1 u.2.2.1 u.2.2.2.1 u.2.2.2.2))) (va_A (pW q cs N D X PM PL) sz)) 0 0 (va_A (pW q cs N D X PM PL) sz) := by
  refine ax_W (Qc := fun A => va_Qi (fun (r : Int32) (u : ZI × ZI × ZI × ZI × ZL) => post r u.1 u.2.1 u.2.2.1 u.2.2.2.1 u.2.2.2.2) (CB G A (fun u => (pW q cs u.1 u.2.1 u.2.2.1 u.2.2.2.1 u.2.2.2.2))) A) (by decide) (Nat.le_of_ble_eq_true rfl) sz ?_
  intro p e s m args below meth c A hx hb hr hlk hml hown hT hC hnm H locs hP hD hS ls hl
  have hK := hC.2.1
  have hA := hC.2.2
  have hl : lv_has ls 6 [(0, .ref (q 0 99)), (1, .int x1), (2, .int x2), (3, .int x3), (4, .int x4), (5, .int x5)] := hl
  unfold w_X4_adds at h
  refine lv_iload_n hx hb dX4_adds_0 rfl (lv_at hl 1 rfl) ?_
  refine lv_iload_n hx hb dX4_adds_1 rfl (lv_at hl 2 rfl) ?_
  refine lv_iload_n hx hb dX4_adds_2 rfl (lv_at hl 3 rfl) ?_
  refine lv_iload hx hb dX4_adds_3 (lv_at hl 4 rfl) ?_
  refine lv_iload hx hb dX4_adds_5 (lv_at hl 5 rfl) ?_
  refine cl_Si (rn_S (rest := []) hx hb hml hown hT hl.1 ck_X4_87 (c_X4_isPrint l x1 x2 x3 x4 x5 _ h) ⟨rfl, rfl, (Nat.le_of_ble_eq_true rfl), (Nat.le_of_ble_eq_true rfl)⟩ ⟨Nat.zero_le _, Nat.zero_le _⟩ rfl rfl (Nat.le_of_ble_eq_true rfl) dX4_adds_7) (fun r1 h => ?_)
  refine lv_if_ne (tgt := 20) hx hb dX4_adds_10 (by decide) (fun ct => ?_) (fun ct => ?_)
  · have h := h.1 ct
    refine lv_aload_n hx hb dX4_adds_20 rfl (lv_at hl 0 rfl) ?_
    refine gf_X4_10 hx hb hT hown hK hP 0 rfl rfl dX4_adds_21 ?_
    refine gf_X4_81 hx hb hT hown hK hP 1 rfl rfl dX4_adds_24 ?_
    refine lv_if_ne (tgt := 35) hx hb dX4_adds_27 (by decide) (fun ct => ?_) (fun ct => ?_)
    · have h := h.1 ct
      refine lv_aload_n hx hb dX4_adds_35 rfl (lv_at hl 0 rfl) ?_
      refine gf_X4_16 hx hb hT hown hK hP 0 rfl rfl dX4_adds_36 ?_
      refine lv_aload_n hx hb dX4_adds_39 rfl (lv_at hl 0 rfl) ?_
      refine gf_X4_10 hx hb hT hown hK hP 0 rfl rfl dX4_adds_40 ?_
      refine wv_part (wr := List.filterMap (fun i : Nat => (pW q cs N D X PM PL)[i]?) [0, 17, 18, 19, 20]) (w2 := fun u => (pW q cs N u X PM PL)) [9, 10, 11, 12, 13, 14, 15, 16, 1, 2, 3, 4, 5, 6, 7, 8] [0, 17, 18, 19, 20] [0, 13, 14, 15, 16, 17, 18, 19, 20, 5, 6, 7, 8, 9, 10, 11, 12, 1, 2, 3, 4] (rn_VN (rest := []) (ci := 0) (wc := (ttW (q 2) (q 1) cs D N)) hx hb hml hown hT hl.1 hC hS (hP.sub [9, 10, 11, 12, 13, 14, 15, 16, 1, 2, 3, 4, 5, 6, 7, 8] rfl) (hD.sub [9, 10, 11, 12, 13, 14, 15, 16, 1, 2, 3, 4, 5, 6, 7, 8] (by decide) rfl) 0 rfl rfl rfl ck_X4_132 (c_X2_takeOverPrints l G cs ts (q 2) (q 1) H.size D N  _ h) ⟨rfl, rfl, (Nat.le_of_ble_eq_true rfl), (Nat.le_of_ble_eq_true rfl)⟩ ⟨Nat.le_refl _, Nat.le_refl _⟩ rfl rfl (Nat.le_of_ble_eq_true rfl) dX4_adds_43) hP hD hS hA rfl rfl rfl (by decide) rfl (fun _ => rfl) (fun D2 H locs hP hD hS h => ?_)
      refine lv_aload_n hx hb dX4_adds_46 rfl (lv_at hl 0 rfl) ?_
      refine gf_X4_16 hx hb hT hown hK hP 0 rfl rfl dX4_adds_47 ?_
      refine lv_iload_n hx hb dX4_adds_50 rfl (lv_at hl 1 rfl) ?_
      refine lv_iload_n hx hb dX4_adds_51 rfl (lv_at hl 2 rfl) ?_
      refine lv_iload_n hx hb dX4_adds_52 rfl (lv_at hl 3 rfl) ?_
      refine lv_iload hx hb dX4_adds_53 (lv_at hl 4 rfl) ?_
      refine lv_iload hx hb dX4_adds_55 (lv_at hl 5 rfl) ?_
      refine wi_part (wr := List.filterMap (fun i : Nat => (pW q cs N D2 X PM PL)[i]?) [0, 1, 2, 3, 4, 5, 6, 7, 8, 17, 18, 19, 20]) (w2 := fun u => (pW q cs N u X PM PL)) [9, 10, 11, 12, 13, 14, 15, 16] [0, 1, 2, 3, 4, 5, 6, 7, 8, 17, 18, 19, 20] [0, 1, 2, 3, 4, 5, 6, 7, 8, 13, 14, 15, 16, 17, 18, 19, 20, 9, 10, 11, 12] (rn_VN (rest := []) (ci := 0) (wc := (tbW (q 2) cs D2)) hx hb hml hown hT hl.1 hC hS (hP.sub [9, 10, 11, 12, 13, 14, 15, 16] rfl) (hD.sub [9, 10, 11, 12, 13, 14, 15, 16] (by decide) rfl) 0 rfl rfl rfl ck_X4_95 (c_X2_putPrint l G cs ts (q 2) H.size D2 x1 x2 x3 x4 x5 _ h) ⟨rfl, rfl, (Nat.le_of_ble_eq_true rfl), (Nat.le_of_ble_eq_true rfl)⟩ ⟨Nat.le_refl _, Nat.le_refl _⟩ rfl rfl (Nat.le_of_ble_eq_true rfl) dX4_adds_57) hP hD hS hA rfl rfl rfl (by decide) rfl (fun _ => rfl) (fun r3 D4 H locs hP hD hS h => ?_)
      exact rt_Wi hx hb hr hlk dX4_adds_60 (N, D4, X, PM, PL) hP hD hS h
    · have h := h.2 ct
      refine lv_aload_n hx hb dX4_adds_30 rfl (lv_at hl 0 rfl) ?_
      refine wi_allP (rn_V (rest := []) (ci := 2) hx hb hml hown hT hl.1 hC hS hP hD 0 rfl rfl rfl ck_X4_91 (c_X4_refuseNo l G cs ts q H.size N D X PM PL  _ h) ⟨rfl, rfl, (Nat.le_of_ble_eq_true rfl), (Nat.le_of_ble_eq_true rfl)⟩ ⟨Nat.le_refl _, Nat.le_refl _⟩ rfl rfl (Nat.le_of_ble_eq_true rfl) dX4_adds_31) hD hS hA (fun r5 N6 D7 X8 PM9 PL10 H locs hP hD hS h => ?_)
      exact rt_Wi hx hb hr hlk dX4_adds_34 (N6, D7, X8, PM9, PL10) hP hD hS h
  · have h := h.2 ct
    refine lv_aload_n hx hb dX4_adds_13 rfl (lv_at hl 0 rfl) ?_
    refine lv_bipush (v := (-2)) hx hb dX4_adds_14 (by decide) ?_
    refine wi_allP (rn_V (rest := []) (ci := 2) hx hb hml hown hT hl.1 hC hS hP hD 0 rfl rfl rfl ck_X4_55 (c_X4_refuseBad l G cs ts q H.size N D X PM PL (-2) _ h) ⟨rfl, rfl, (Nat.le_of_ble_eq_true rfl), (Nat.le_of_ble_eq_true rfl)⟩ ⟨Nat.le_refl _, Nat.le_refl _⟩ rfl rfl (Nat.le_of_ble_eq_true rfl) dX4_adds_16) hD hS hA (fun r11 N12 D13 X14 PM15 PL16 H locs hP hD hS h => ?_)
    exact rt_Wi hx hb hr hlk dX4_adds_19 (N12, D13, X14, PM15, PL16) hP hD hS h
abbrev rm_X4_force : Room := { frames := 2, cells := 0, slots := 0, locals := 44 }
set_option maxRecDepth 100000 in
set_option maxHeartbeats 4000000 in
theorem c_X4_force (l : Launch) (G : va_G) (cs ts : Nat → Nat) (q : Nat → Nat → Nat) (sz : Nat)  (N : ZI) (D : ZI) (X : ZI) (PM : ZI) (PL : ZL)   (x1 : Int32) (x2 : Int32) (x3 : Int32) (post : Int32 → ZI → ZI → ZI → ZI → ZL → Prop) (h : w_X4_force N D X PM PL x1 x2 x3 post) : Met l yX4_force [.code yX4_force cX4_force 4 (some .int)] rm_X4_force (va_Pc [.ref (q 0 99), .int x1, .int x2, .int x3] (CP G cs ts (pW q cs N D X PM PL) sz)) (va_Qi (fun (r : Int32) (u : ZI × ZI × ZI × ZI × ZL) => post r u.1 u.2.1 u.2.2.1 u.2.2.2.1 u.2.2.2.2) (CB G (va_A (pW q cs N D X PM PL) sz) (fun u => (pW q cs u.1 u.2.1 u.2.2.1 u.2.2.2.1 u.2.2.2.2))) (va_A (pW q cs N D X PM PL) sz)) 0 0 (va_A (pW q cs N D X PM PL) sz) := by
  refine ax_W (Qc := fun A => va_Qi (fun (r : Int32) (u : ZI × ZI × ZI × ZI × ZL) => post r u.1 u.2.1 u.2.2.1 u.2.2.2.1 u.2.2.2.2) (CB G A (fun u => (pW q cs u.1 u.2.1 u.2.2.1 u.2.2.2.1 u.2.2.2.2))) A) (by decide) (Nat.le_of_ble_eq_true rfl) sz ?_
  intro p e s m args below meth c A hx hb hr hlk hml hown hT hC hnm H locs hP hD hS ls hl
  have hK := hC.2.1
  have hA := hC.2.2
  have hl : lv_has ls 4 [(0, .ref (q 0 99)), (1, .int x1), (2, .int x2), (3, .int x3)] := hl
  unfold w_X4_force at h
  refine lv_iload_n hx hb dX4_force_0 rfl (lv_at hl 1 rfl) ?_
  refine lv_iload_n hx hb dX4_force_1 rfl (lv_at hl 2 rfl) ?_
  refine cl_Si (rn_S (rest := []) hx hb hml hown hT hl.1 ck_X4_135 (c_X4_isDip l x1 x2 _ h) ⟨rfl, rfl, (Nat.le_of_ble_eq_true rfl), (Nat.le_of_ble_eq_true rfl)⟩ ⟨Nat.zero_le _, Nat.zero_le _⟩ rfl rfl (Nat.le_of_ble_eq_true rfl) dX4_force_2) (fun r1 h => ?_)
  refine lv_if_eq (tgt := 17) hx hb dX4_force_5 (by decide) (fun ct => ?_) (fun ct => ?_)
  · have h := h.1 ct
    refine lv_aload_n hx hb dX4_force_17 rfl (lv_at hl 0 rfl) ?_
    refine lv_bipush (v := (-2)) hx hb dX4_force_18 (by decide) ?_
    refine wi_allP (rn_V (rest := []) (ci := 2) hx hb hml hown hT hl.1 hC hS hP hD 0 rfl rfl rfl ck_X4_55 (c_X4_refuseBad l G cs ts q H.size N D X PM PL (-2) _ h) ⟨rfl, rfl, (Nat.le_of_ble_eq_true rfl), (Nat.le_of_ble_eq_true rfl)⟩ ⟨Nat.le_refl _, Nat.le_refl _⟩ rfl rfl (Nat.le_of_ble_eq_true rfl) dX4_force_20) hD hS hA (fun r2 N3 D4 X5 PM6 PL7 H locs hP hD hS h => ?_)
    exact rt_Wi hx hb hr hlk dX4_force_23 (N3, D4, X5, PM6, PL7) hP hD hS h
  · have h := h.2 ct
    refine lv_iload_n hx hb dX4_force_8 rfl (lv_at hl 3 rfl) ?_
    refine lv_iconst (v := 0) hx hb dX4_force_9 (by decide) ?_
    refine lv_iconst (v := 1) hx hb dX4_force_10 (by decide) ?_
    refine cl_Si (rn_S (rest := []) hx hb hml hown hT hl.1 ck_X4_51 (c_X4_within l x3 0 1 _ h) ⟨rfl, rfl, (Nat.le_of_ble_eq_true rfl), (Nat.le_of_ble_eq_true rfl)⟩ ⟨Nat.zero_le _, Nat.zero_le _⟩ rfl rfl (Nat.le_of_ble_eq_true rfl) dX4_force_11) (fun r8 h => ?_)
    refine lv_if_ne (tgt := 24) hx hb dX4_force_14 (by decide) (fun ct => ?_) (fun ct => ?_)
    · have h := h.1 ct
      refine lv_iload_n hx hb dX4_force_24 rfl (lv_at hl 3 rfl) ?_
      refine lv_if_ne (tgt := 36) hx hb dX4_force_25 (by decide) (fun ct => ?_) (fun ct => ?_)
      · have h := h.1 ct
        refine lv_iload_n hx hb dX4_force_36 rfl (lv_at hl 1 rfl) ?_
        refine lv_iload_n hx hb dX4_force_37 rfl (lv_at hl 2 rfl) ?_
        refine cl_Si (rn_SN (rest := []) hx hb hml hown hT hl.1 ck_X4_143 (c_X0_paintTaken l x1 x2 _ h) ⟨rfl, rfl, (Nat.le_of_ble_eq_true rfl), (Nat.le_of_ble_eq_true rfl)⟩ ⟨Nat.zero_le _, Nat.zero_le _⟩ rfl rfl (Nat.le_of_ble_eq_true rfl) dX4_force_38) (fun r9 h => ?_)
        exact rt_Wi hx hb hr hlk dX4_force_41 (N, D, X, PM, PL) hP hD hS h
      · have h := h.2 ct
        refine lv_iload_n hx hb dX4_force_28 rfl (lv_at hl 1 rfl) ?_
        refine lv_iload_n hx hb dX4_force_29 rfl (lv_at hl 2 rfl) ?_
        refine cl_Si (rn_SN (rest := []) hx hb hml hown hT hl.1 ck_X4_138 (c_X0_darkness l x1 x2 _ h) ⟨rfl, rfl, (Nat.le_of_ble_eq_true rfl), (Nat.le_of_ble_eq_true rfl)⟩ ⟨Nat.zero_le _, Nat.zero_le _⟩ rfl rfl (Nat.le_of_ble_eq_true rfl) dX4_force_30) (fun r10 h => ?_)
        refine lv_goto (tgt := 41) hx hb dX4_force_33 (by decide) ?_
        exact rt_Wi hx hb hr hlk dX4_force_41 (N, D, X, PM, PL) hP hD hS h
    · have h := h.2 ct
      refine lv_aload_n hx hb dX4_force_17 rfl (lv_at hl 0 rfl) ?_
      refine lv_bipush (v := (-2)) hx hb dX4_force_18 (by decide) ?_
      refine wi_allP (rn_V (rest := []) (ci := 2) hx hb hml hown hT hl.1 hC hS hP hD 0 rfl rfl rfl ck_X4_55 (c_X4_refuseBad l G cs ts q H.size N D X PM PL (-2) _ h) ⟨rfl, rfl, (Nat.le_of_ble_eq_true rfl), (Nat.le_of_ble_eq_true rfl)⟩ ⟨Nat.le_refl _, Nat.le_refl _⟩ rfl rfl (Nat.le_of_ble_eq_true rfl) dX4_force_20) hD hS hA (fun r11 N12 D13 X14 PM15 PL16 H locs hP hD hS h => ?_)
      exact rt_Wi hx hb hr hlk dX4_force_23 (N12, D13, X14, PM15, PL16) hP hD hS h
abbrev rm_X4_fromOne : Room := { frames := 3, cells := 0, slots := 0, locals := 68 }
set_option maxRecDepth 100000 in
set_option maxHeartbeats 4000000 in
theorem c_X4_fromOne (l : Launch) (G : va_G) (cs ts : Nat → Nat) (q : Nat → Nat → Nat) (sz : Nat)  (N : ZI) (D : ZI) (X : ZI) (PM : ZI) (PL : ZL)   (x1 : Int32) (x2 : Int32) (x3 : Int32) (post : Int32 → ZI → ZI → ZI → ZI → ZL → Prop) (h : w_X4_fromOne N D X PM PL x1 x2 x3 post) : Met l yX4_fromOne [.code yX4_fromOne cX4_fromOne 4 (some .int)] rm_X4_fromOne (va_Pc [.ref (q 0 99), .int x1, .int x2, .int x3] (CP G cs ts (pW q cs N D X PM PL) sz)) (va_Qi (fun (r : Int32) (u : ZI × ZI × ZI × ZI × ZL) => post r u.1 u.2.1 u.2.2.1 u.2.2.2.1 u.2.2.2.2) (CB G (va_A (pW q cs N D X PM PL) sz) (fun u => (pW q cs u.1 u.2.1 u.2.2.1 u.2.2.2.1 u.2.2.2.2))) (va_A (pW q cs N D X PM PL) sz)) 0 0 (va_A (pW q cs N D X PM PL) sz) := by
  refine ax_W (Qc := fun A => va_Qi (fun (r : Int32) (u : ZI × ZI × ZI × ZI × ZL) => post r u.1 u.2.1 u.2.2.1 u.2.2.2.1 u.2.2.2.2) (CB G A (fun u => (pW q cs u.1 u.2.1 u.2.2.1 u.2.2.2.1 u.2.2.2.2))) A) (by decide) (Nat.le_of_ble_eq_true rfl) sz ?_
  intro p e s m args below meth c A hx hb hr hlk hml hown hT hC hnm H locs hP hD hS ls hl
  have hK := hC.2.1
  have hA := hC.2.2
  have hl : lv_has ls 4 [(0, .ref (q 0 99)), (1, .int x1), (2, .int x2), (3, .int x3)] := hl
  unfold w_X4_fromOne at h
  refine lv_iload_n hx hb dX4_fromOne_0 rfl (lv_at hl 1 rfl) ?_
  refine lv_iload_n hx hb dX4_fromOne_1 rfl (lv_at hl 2 rfl) ?_
  refine cl_Si (rn_S (rest := []) hx hb hml hown hT hl.1 ck_X4_135 (c_X4_isDip l x1 x2 _ h) ⟨rfl, rfl, (Nat.le_of_ble_eq_true rfl), (Nat.le_of_ble_eq_true rfl)⟩ ⟨Nat.zero_le _, Nat.zero_le _⟩ rfl rfl (Nat.le_of_ble_eq_true rfl) dX4_fromOne_2) (fun r1 h => ?_)
  refine lv_if_eq (tgt := 18) hx hb dX4_fromOne_5 (by decide) (fun ct => ?_) (fun ct => ?_)
  · have h := h.1 ct
    refine lv_aload_n hx hb dX4_fromOne_18 rfl (lv_at hl 0 rfl) ?_
    refine lv_bipush (v := (-2)) hx hb dX4_fromOne_19 (by decide) ?_
    refine wi_allP (rn_V (rest := []) (ci := 2) hx hb hml hown hT hl.1 hC hS hP hD 0 rfl rfl rfl ck_X4_55 (c_X4_refuseBad l G cs ts q H.size N D X PM PL (-2) _ h) ⟨rfl, rfl, (Nat.le_of_ble_eq_true rfl), (Nat.le_of_ble_eq_true rfl)⟩ ⟨Nat.le_refl _, Nat.le_refl _⟩ rfl rfl (Nat.le_of_ble_eq_true rfl) dX4_fromOne_21) hD hS hA (fun r2 N3 D4 X5 PM6 PL7 H locs hP hD hS h => ?_)
    exact rt_Wi hx hb hr hlk dX4_fromOne_24 (N3, D4, X5, PM6, PL7) hP hD hS h
  · have h := h.2 ct
    refine lv_iload_n hx hb dX4_fromOne_8 rfl (lv_at hl 3 rfl) ?_
    refine lv_iconst (v := 1) hx hb dX4_fromOne_9 (by decide) ?_
    refine lv_bipush (v := 9) hx hb dX4_fromOne_10 (by decide) ?_
    refine cl_Si (rn_S (rest := []) hx hb hml hown hT hl.1 ck_X4_51 (c_X4_within l x3 1 9 _ h) ⟨rfl, rfl, (Nat.le_of_ble_eq_true rfl), (Nat.le_of_ble_eq_true rfl)⟩ ⟨Nat.zero_le _, Nat.zero_le _⟩ rfl rfl (Nat.le_of_ble_eq_true rfl) dX4_fromOne_12) (fun r8 h => ?_)
    refine lv_if_ne (tgt := 25) hx hb dX4_fromOne_15 (by decide) (fun ct => ?_) (fun ct => ?_)
    · have h := h.1 ct
      refine lv_iload_n hx hb dX4_fromOne_25 rfl (lv_at hl 1 rfl) ?_
      refine lv_iload_n hx hb dX4_fromOne_26 rfl (lv_at hl 2 rfl) ?_
      refine lv_iload_n hx hb dX4_fromOne_27 rfl (lv_at hl 3 rfl) ?_
      refine cl_Si (rn_SN (rest := []) hx hb hml hown hT hl.1 ck_X4_146 (c_X0_printsOfOneDip l x1 x2 x3 _ h) ⟨rfl, rfl, (Nat.le_of_ble_eq_true rfl), (Nat.le_of_ble_eq_true rfl)⟩ ⟨Nat.zero_le _, Nat.zero_le _⟩ rfl rfl (Nat.le_of_ble_eq_true rfl) dX4_fromOne_28) (fun r9 h => ?_)
      exact rt_Wi hx hb hr hlk dX4_fromOne_31 (N, D, X, PM, PL) hP hD hS h
    · have h := h.2 ct
      refine lv_aload_n hx hb dX4_fromOne_18 rfl (lv_at hl 0 rfl) ?_
      refine lv_bipush (v := (-2)) hx hb dX4_fromOne_19 (by decide) ?_
      refine wi_allP (rn_V (rest := []) (ci := 2) hx hb hml hown hT hl.1 hC hS hP hD 0 rfl rfl rfl ck_X4_55 (c_X4_refuseBad l G cs ts q H.size N D X PM PL (-2) _ h) ⟨rfl, rfl, (Nat.le_of_ble_eq_true rfl), (Nat.le_of_ble_eq_true rfl)⟩ ⟨Nat.le_refl _, Nat.le_refl _⟩ rfl rfl (Nat.le_of_ble_eq_true rfl) dX4_fromOne_21) hD hS hA (fun r10 N11 D12 X13 PM14 PL15 H locs hP hD hS h => ?_)
      exact rt_Wi hx hb hr hlk dX4_fromOne_24 (N11, D12, X13, PM14, PL15) hP hD hS h
abbrev rm_X4_dips : Room := { frames := 3, cells := 0, slots := 0, locals := 68 }
set_option maxRecDepth 100000 in
set_option maxHeartbeats 4000000 in
theorem c_X4_dips (l : Launch) (G : va_G) (cs ts : Nat → Nat) (q : Nat → Nat → Nat) (sz : Nat)  (N : ZI) (D : ZI) (X : ZI) (PM : ZI) (PL : ZL)   (x1 : Int32) (x2 : Int32) (x3 : Int32) (x4 : Int32) (post : Int32 → ZI → ZI → ZI → ZI → ZL → Prop) (h : w_X4_dips N D X PM PL x1 x2 x3 x4 post) : Met l yX4_dips [.code yX4_dips cX4_dips 6 (some .int)] rm_X4_dips (va_Pc [.ref (q 0 99), .int x1, .int x2, .int x3, .int x4] (CP G cs ts (pW q cs N D X PM PL) sz)) (va_Qi (fun (r : Int32) (u : ZI × ZI × ZI × ZI × ZL) => post r u.1 u.2.1 u.2.2.1 u.2.2.2.1 u.2.2.2.2) (CB G (va_A (pW q cs N D X PM PL) sz) (fun u => (pW q cs u.1 u.2.1 u.2.2.1 u.2.2.2.1 u.2.2.2.2))) (va_A (pW q cs N D X PM PL) sz)) 0 0 (va_A (pW q cs N D X PM PL) sz) := by
  refine ax_W (Qc := fun A => va_Qi (fun (r : Int32) (u : ZI × ZI × ZI × ZI × ZL) => post r u.1 u.2.1 u.2.2.1 u.2.2.2.1 u.2.2.2.2) (CB G A (fun u => (pW q cs u.1 u.2.1 u.2.2.1 u.2.2.2.1 u.2.2.2.2))) A) (by decide) (Nat.le_of_ble_eq_true rfl) sz ?_
  intro p e s m args below meth c A hx hb hr hlk hml hown hT hC hnm H locs hP hD hS ls hl
  have hK := hC.2.1
  have hA := hC.2.2
  have hl : lv_has ls 6 [(0, .ref (q 0 99)), (1, .int x1), (2, .int x2), (3, .int x3), (4, .int x4)] := hl
  unfold w_X4_dips at h
  refine lv_iload_n hx hb dX4_dips_0 rfl (lv_at hl 1 rfl) ?_
  refine lv_iload_n hx hb dX4_dips_1 rfl (lv_at hl 2 rfl) ?_
  refine cl_Si (rn_S (rest := []) hx hb hml hown hT hl.1 ck_X4_135 (c_X4_isDip l x1 x2 _ h) ⟨rfl, rfl, (Nat.le_of_ble_eq_true rfl), (Nat.le_of_ble_eq_true rfl)⟩ ⟨Nat.zero_le _, Nat.zero_le _⟩ rfl rfl (Nat.le_of_ble_eq_true rfl) dX4_dips_2) (fun r1 h => ?_)
  refine lv_if_eq (tgt := 29) hx hb dX4_dips_5 (by decide) (fun ct => ?_) (fun ct => ?_)
  · have h := h.1 ct
    refine lv_aload_n hx hb dX4_dips_29 rfl (lv_at hl 0 rfl) ?_
    refine lv_bipush (v := (-2)) hx hb dX4_dips_30 (by decide) ?_
    refine wi_allP (rn_V (rest := []) (ci := 2) hx hb hml hown hT hl.1 hC hS hP hD 0 rfl rfl rfl ck_X4_55 (c_X4_refuseBad l G cs ts q H.size N D X PM PL (-2) _ h) ⟨rfl, rfl, (Nat.le_of_ble_eq_true rfl), (Nat.le_of_ble_eq_true rfl)⟩ ⟨Nat.le_refl _, Nat.le_refl _⟩ rfl rfl (Nat.le_of_ble_eq_true rfl) dX4_dips_32) hD hS hA (fun r2 N3 D4 X5 PM6 PL7 H locs hP hD hS h => ?_)
    exact rt_Wi hx hb hr hlk dX4_dips_35 (N3, D4, X5, PM6, PL7) hP hD hS h
  · have h := h.2 ct
    refine lv_iload_n hx hb dX4_dips_8 rfl (lv_at hl 3 rfl) ?_
    refine lv_iconst (v := 1) hx hb dX4_dips_9 (by decide) ?_
    refine lv_bipush (v := 9) hx hb dX4_dips_10 (by decide) ?_
    refine cl_Si (rn_S (rest := []) hx hb hml hown hT hl.1 ck_X4_51 (c_X4_within l x3 1 9 _ h) ⟨rfl, rfl, (Nat.le_of_ble_eq_true rfl), (Nat.le_of_ble_eq_true rfl)⟩ ⟨Nat.zero_le _, Nat.zero_le _⟩ rfl rfl (Nat.le_of_ble_eq_true rfl) dX4_dips_12) (fun r8 h => ?_)
    refine lv_if_eq (tgt := 29) hx hb dX4_dips_15 (by decide) (fun ct => ?_) (fun ct => ?_)
    · have h := h.1 ct
      refine lv_aload_n hx hb dX4_dips_29 rfl (lv_at hl 0 rfl) ?_
      refine lv_bipush (v := (-2)) hx hb dX4_dips_30 (by decide) ?_
      refine wi_allP (rn_V (rest := []) (ci := 2) hx hb hml hown hT hl.1 hC hS hP hD 0 rfl rfl rfl ck_X4_55 (c_X4_refuseBad l G cs ts q H.size N D X PM PL (-2) _ h) ⟨rfl, rfl, (Nat.le_of_ble_eq_true rfl), (Nat.le_of_ble_eq_true rfl)⟩ ⟨Nat.le_refl _, Nat.le_refl _⟩ rfl rfl (Nat.le_of_ble_eq_true rfl) dX4_dips_32) hD hS hA (fun r9 N10 D11 X12 PM13 PL14 H locs hP hD hS h => ?_)
      exact rt_Wi hx hb hr hlk dX4_dips_35 (N10, D11, X12, PM13, PL14) hP hD hS h
    · have h := h.2 ct
      refine lv_iload hx hb dX4_dips_18 (lv_at hl 4 rfl) ?_
      refine lv_iconst (v := 0) hx hb dX4_dips_20 (by decide) ?_
      refine lv_bipush (v := 60) hx hb dX4_dips_21 (by decide) ?_
      refine cl_Si (rn_S (rest := []) hx hb hml hown hT hl.1 ck_X4_51 (c_X4_within l x4 0 60 _ h) ⟨rfl, rfl, (Nat.le_of_ble_eq_true rfl), (Nat.le_of_ble_eq_true rfl)⟩ ⟨Nat.zero_le _, Nat.zero_le _⟩ rfl rfl (Nat.le_of_ble_eq_true rfl) dX4_dips_23) (fun r15 h => ?_)
      refine lv_if_ne (tgt := 36) hx hb dX4_dips_26 (by decide) (fun ct => ?_) (fun ct => ?_)
      · have h := h.1 ct
        refine lv_iload hx hb dX4_dips_36 (lv_at hl 4 rfl) ?_
        refine lv_if_ne (tgt := 43) hx hb dX4_dips_38 (by decide) (fun ct => ?_) (fun ct => ?_)
        · have h := h.1 ct
          refine lv_iload_n hx hb dX4_dips_43 rfl (lv_at hl 1 rfl) ?_
          refine lv_iload_n hx hb dX4_dips_44 rfl (lv_at hl 2 rfl) ?_
          refine lv_iload_n hx hb dX4_dips_45 rfl (lv_at hl 3 rfl) ?_
          refine cl_Si (rn_SN (rest := []) hx hb hml hown hT hl.1 ck_X4_146 (c_X0_printsOfOneDip l x1 x2 x3 _ h) ⟨rfl, rfl, (Nat.le_of_ble_eq_true rfl), (Nat.le_of_ble_eq_true rfl)⟩ ⟨Nat.zero_le _, Nat.zero_le _⟩ rfl rfl (Nat.le_of_ble_eq_true rfl) dX4_dips_46) (fun r16 h => ?_)
          refine lv_istore (lv' := [(5, .int r16), (0, .ref (q 0 99)), (1, .int x1), (2, .int x2), (3, .int x3), (4, .int x4)]) hx hb dX4_dips_49 hl (by decide) rfl (fun ls hl => ?_)
          refine lv_iload hx hb dX4_dips_51 (lv_at hl 0 rfl) ?_
          refine lv_if_le (tgt := 69) hx hb dX4_dips_53 (by decide) (fun ct => ?_) (fun ct => ?_)
          · have h := h.1 ct
            refine lv_iconst (v := (-1)) hx hb dX4_dips_69 (by decide) ?_
            exact rt_Wi hx hb hr hlk dX4_dips_70 (N, D, X, PM, PL) hP hD hS h
          · have h := h.2 ct
            refine lv_iload hx hb dX4_dips_56 (lv_at hl 5 rfl) ?_
            refine lv_iload hx hb dX4_dips_58 (lv_at hl 0 rfl) ?_
            refine lv_iadd hx hb dX4_dips_60 ?_
            refine lv_iconst (v := 1) hx hb dX4_dips_61 (by decide) ?_
            refine lv_isub hx hb dX4_dips_62 ?_
            refine lv_iload hx hb dX4_dips_63 (lv_at hl 0 rfl) ?_
            obtain ⟨hi, h⟩ := h
            refine lv_idiv hx hb dX4_dips_65 hi ?_
            refine lv_goto (tgt := 70) hx hb dX4_dips_66 (by decide) ?_
            exact rt_Wi hx hb hr hlk dX4_dips_70 (N, D, X, PM, PL) hP hD hS h
        · have h := h.2 ct
          refine lv_iconst (v := 0) hx hb dX4_dips_41 (by decide) ?_
          exact rt_Wi hx hb hr hlk dX4_dips_42 (N, D, X, PM, PL) hP hD hS h
      · have h := h.2 ct
        refine lv_aload_n hx hb dX4_dips_29 rfl (lv_at hl 0 rfl) ?_
        refine lv_bipush (v := (-2)) hx hb dX4_dips_30 (by decide) ?_
        refine wi_allP (rn_V (rest := []) (ci := 2) hx hb hml hown hT hl.1 hC hS hP hD 0 rfl rfl rfl ck_X4_55 (c_X4_refuseBad l G cs ts q H.size N D X PM PL (-2) _ h) ⟨rfl, rfl, (Nat.le_of_ble_eq_true rfl), (Nat.le_of_ble_eq_true rfl)⟩ ⟨Nat.le_refl _, Nat.le_refl _⟩ rfl rfl (Nat.le_of_ble_eq_true rfl) dX4_dips_32) hD hS hA (fun r17 N18 D19 X20 PM21 PL22 H locs hP hD hS h => ?_)
        exact rt_Wi hx hb hr hlk dX4_dips_35 (N18, D19, X20, PM21, PL22) hP hD hS h
abbrev rm_X4_edge : Room := { frames := 2, cells := 0, slots := 0, locals := 44 }
set_option maxRecDepth 100000 in
set_option maxHeartbeats 4000000 in
theorem c_X4_edge (l : Launch) (G : va_G) (cs ts : Nat → Nat) (q : Nat → Nat → Nat) (sz : Nat)  (N : ZI) (D : ZI) (X : ZI) (PM : ZI) (PL : ZL)   (x1 : Int32) (x2 : Int32) (x3 : Int32) (post : Int32 → ZI → ZI → ZI → ZI → ZL → Prop) (h : w_X4_edge N D X PM PL x1 x2 x3 post) : Met l yX4_edge [.code yX4_edge cX4_edge 4 (some .int)] rm_X4_edge (va_Pc [.ref (q 0 99), .int x1, .int x2, .int x3] (CP G cs ts (pW q cs N D X PM PL) sz)) (va_Qi (fun (r : Int32) (u : ZI × ZI × ZI × ZI × ZL) => post r u.1 u.2.1 u.2.2.1 u.2.2.2.1 u.2.2.2.2) (CB G (va_A (pW q cs N D X PM PL) sz) (fun u => (pW q cs u.1 u.2.1 u.2.2.1 u.2.2.2.1 u.2.2.2.2))) (va_A (pW q cs N D X PM PL) sz)) 0 0 (va_A (pW q cs N D X PM PL) sz) := by
  refine ax_W (Qc := fun A => va_Qi (fun (r : Int32) (u : ZI × ZI × ZI × ZI × ZL) => post r u.1 u.2.1 u.2.2.1 u.2.2.2.1 u.2.2.2.2) (CB G A (fun u => (pW q cs u.1 u.2.1 u.2.2.1 u.2.2.2.1 u.2.2.2.2))) A) (by decide) (Nat.le_of_ble_eq_true rfl) sz ?_
  intro p e s m args below meth c A hx hb hr hlk hml hown hT hC hnm H locs hP hD hS ls hl
  have hK := hC.2.1
  have hA := hC.2.2
  have hl : lv_has ls 4 [(0, .ref (q 0 99)), (1, .int x1), (2, .int x2), (3, .int x3)] := hl
  unfold w_X4_edge at h
  refine lv_iload_n hx hb dX4_edge_0 rfl (lv_at hl 1 rfl) ?_
  refine lv_iconst (v := 4) hx hb dX4_edge_1 (by decide) ?_
  refine lv_bipush (v := 99) hx hb dX4_edge_2 (by decide) ?_
  refine cl_Si (rn_S (rest := []) hx hb hml hown hT hl.1 ck_X4_51 (c_X4_within l x1 4 99 _ h) ⟨rfl, rfl, (Nat.le_of_ble_eq_true rfl), (Nat.le_of_ble_eq_true rfl)⟩ ⟨Nat.zero_le _, Nat.zero_le _⟩ rfl rfl (Nat.le_of_ble_eq_true rfl) dX4_edge_4) (fun r1 h => ?_)
  refine lv_if_eq (tgt := 29) hx hb dX4_edge_7 (by decide) (fun ct => ?_) (fun ct => ?_)
  · have h := h.1 ct
    refine lv_aload_n hx hb dX4_edge_29 rfl (lv_at hl 0 rfl) ?_
    refine lv_bipush (v := (-2)) hx hb dX4_edge_30 (by decide) ?_
    refine wi_allP (rn_V (rest := []) (ci := 2) hx hb hml hown hT hl.1 hC hS hP hD 0 rfl rfl rfl ck_X4_55 (c_X4_refuseBad l G cs ts q H.size N D X PM PL (-2) _ h) ⟨rfl, rfl, (Nat.le_of_ble_eq_true rfl), (Nat.le_of_ble_eq_true rfl)⟩ ⟨Nat.le_refl _, Nat.le_refl _⟩ rfl rfl (Nat.le_of_ble_eq_true rfl) dX4_edge_32) hD hS hA (fun r2 N3 D4 X5 PM6 PL7 H locs hP hD hS h => ?_)
    exact rt_Wi hx hb hr hlk dX4_edge_35 (N3, D4, X5, PM6, PL7) hP hD hS h
  · have h := h.2 ct
    refine lv_iload_n hx hb dX4_edge_10 rfl (lv_at hl 2 rfl) ?_
    refine lv_iconst (v := 0) hx hb dX4_edge_11 (by decide) ?_
    refine lv_bipush (v := 9) hx hb dX4_edge_12 (by decide) ?_
    refine cl_Si (rn_S (rest := []) hx hb hml hown hT hl.1 ck_X4_51 (c_X4_within l x2 0 9 _ h) ⟨rfl, rfl, (Nat.le_of_ble_eq_true rfl), (Nat.le_of_ble_eq_true rfl)⟩ ⟨Nat.zero_le _, Nat.zero_le _⟩ rfl rfl (Nat.le_of_ble_eq_true rfl) dX4_edge_14) (fun r8 h => ?_)
    refine lv_if_eq (tgt := 29) hx hb dX4_edge_17 (by decide) (fun ct => ?_) (fun ct => ?_)
    · have h := h.1 ct
      refine lv_aload_n hx hb dX4_edge_29 rfl (lv_at hl 0 rfl) ?_
      refine lv_bipush (v := (-2)) hx hb dX4_edge_30 (by decide) ?_
      refine wi_allP (rn_V (rest := []) (ci := 2) hx hb hml hown hT hl.1 hC hS hP hD 0 rfl rfl rfl ck_X4_55 (c_X4_refuseBad l G cs ts q H.size N D X PM PL (-2) _ h) ⟨rfl, rfl, (Nat.le_of_ble_eq_true rfl), (Nat.le_of_ble_eq_true rfl)⟩ ⟨Nat.le_refl _, Nat.le_refl _⟩ rfl rfl (Nat.le_of_ble_eq_true rfl) dX4_edge_32) hD hS hA (fun r9 N10 D11 X12 PM13 PL14 H locs hP hD hS h => ?_)
      exact rt_Wi hx hb hr hlk dX4_edge_35 (N10, D11, X12, PM13, PL14) hP hD hS h
    · have h := h.2 ct
      refine lv_iload_n hx hb dX4_edge_20 rfl (lv_at hl 3 rfl) ?_
      refine lv_iconst (v := 0) hx hb dX4_edge_21 (by decide) ?_
      refine lv_iconst (v := 1) hx hb dX4_edge_22 (by decide) ?_
      refine cl_Si (rn_S (rest := []) hx hb hml hown hT hl.1 ck_X4_51 (c_X4_within l x3 0 1 _ h) ⟨rfl, rfl, (Nat.le_of_ble_eq_true rfl), (Nat.le_of_ble_eq_true rfl)⟩ ⟨Nat.zero_le _, Nat.zero_le _⟩ rfl rfl (Nat.le_of_ble_eq_true rfl) dX4_edge_23) (fun r15 h => ?_)
      refine lv_if_ne (tgt := 36) hx hb dX4_edge_26 (by decide) (fun ct => ?_) (fun ct => ?_)
      · have h := h.1 ct
        refine lv_iload_n hx hb dX4_edge_36 rfl (lv_at hl 3 rfl) ?_
        refine lv_if_ne (tgt := 48) hx hb dX4_edge_37 (by decide) (fun ct => ?_) (fun ct => ?_)
        · have h := h.1 ct
          refine lv_iload_n hx hb dX4_edge_48 rfl (lv_at hl 1 rfl) ?_
          refine lv_iload_n hx hb dX4_edge_49 rfl (lv_at hl 2 rfl) ?_
          refine cl_Si (rn_S (rest := []) hx hb hml hown hT hl.1 ck_X4_153 (c_X4_leftOfEdge l x1 x2 _ h) ⟨rfl, rfl, (Nat.le_of_ble_eq_true rfl), (Nat.le_of_ble_eq_true rfl)⟩ ⟨Nat.zero_le _, Nat.zero_le _⟩ rfl rfl (Nat.le_of_ble_eq_true rfl) dX4_edge_50) (fun r16 h => ?_)
          exact rt_Wi hx hb hr hlk dX4_edge_53 (N, D, X, PM, PL) hP hD hS h
        · have h := h.2 ct
          refine lv_iload_n hx hb dX4_edge_40 rfl (lv_at hl 1 rfl) ?_
          refine lv_iload_n hx hb dX4_edge_41 rfl (lv_at hl 2 rfl) ?_
          refine cl_Si (rn_S (rest := []) hx hb hml hown hT hl.1 ck_X4_150 (c_X4_wholePrints l x1 x2 _ h) ⟨rfl, rfl, (Nat.le_of_ble_eq_true rfl), (Nat.le_of_ble_eq_true rfl)⟩ ⟨Nat.zero_le _, Nat.zero_le _⟩ rfl rfl (Nat.le_of_ble_eq_true rfl) dX4_edge_42) (fun r17 h => ?_)
          refine lv_goto (tgt := 53) hx hb dX4_edge_45 (by decide) ?_
          exact rt_Wi hx hb hr hlk dX4_edge_53 (N, D, X, PM, PL) hP hD hS h
      · have h := h.2 ct
        refine lv_aload_n hx hb dX4_edge_29 rfl (lv_at hl 0 rfl) ?_
        refine lv_bipush (v := (-2)) hx hb dX4_edge_30 (by decide) ?_
        refine wi_allP (rn_V (rest := []) (ci := 2) hx hb hml hown hT hl.1 hC hS hP hD 0 rfl rfl rfl ck_X4_55 (c_X4_refuseBad l G cs ts q H.size N D X PM PL (-2) _ h) ⟨rfl, rfl, (Nat.le_of_ble_eq_true rfl), (Nat.le_of_ble_eq_true rfl)⟩ ⟨Nat.le_refl _, Nat.le_refl _⟩ rfl rfl (Nat.le_of_ble_eq_true rfl) dX4_edge_32) hD hS hA (fun r18 N19 D20 X21 PM22 PL23 H locs hP hD hS h => ?_)
        exact rt_Wi hx hb hr hlk dX4_edge_35 (N19, D20, X21, PM22, PL23) hP hD hS h
abbrev rm_X4_gap : Room := { frames := 2, cells := 0, slots := 0, locals := 44 }
set_option maxRecDepth 100000 in
set_option maxHeartbeats 4000000 in
theorem c_X4_gap (l : Launch) (G : va_G) (cs ts : Nat → Nat) (q : Nat → Nat → Nat) (sz : Nat)  (N : ZI) (D : ZI) (X : ZI) (PM : ZI) (PL : ZL)   (x1 : Int32) (post : Int32 → ZI → ZI → ZI → ZI → ZL → Prop) (h : w_X4_gap N D X PM PL x1 post) : Met l yX4_gap [.code yX4_gap cX4_gap 4 (some .int)] rm_X4_gap (va_Pc [.ref (q 0 99), .int x1] (CP G cs ts (pW q cs N D X PM PL) sz)) (va_Qi (fun (r : Int32) (u : ZI × ZI × ZI × ZI × ZL) => post r u.1 u.2.1 u.2.2.1 u.2.2.2.1 u.2.2.2.2) (CB G (va_A (pW q cs N D X PM PL) sz) (fun u => (pW q cs u.1 u.2.1 u.2.2.1 u.2.2.2.1 u.2.2.2.2))) (va_A (pW q cs N D X PM PL) sz)) 0 0 (va_A (pW q cs N D X PM PL) sz) := by
  refine ax_W (Qc := fun A => va_Qi (fun (r : Int32) (u : ZI × ZI × ZI × ZI × ZL) => post r u.1 u.2.1 u.2.2.1 u.2.2.2.1 u.2.2.2.2) (CB G A (fun u => (pW q cs u.1 u.2.1 u.2.2.1 u.2.2.2.1 u.2.2.2.2))) A) (by decide) (Nat.le_of_ble_eq_true rfl) sz ?_
  intro p e s m args below meth c A hx hb hr hlk hml hown hT hC hnm H locs hP hD hS ls hl
  have hK := hC.2.1
  have hA := hC.2.2
  have hl : lv_has ls 4 [(0, .ref (q 0 99)), (1, .int x1)] := hl
  unfold w_X4_gap at h
  have HL21 : ∀ (Nf : ZI) (Df : ZI) (Xf : ZI) (PMf : ZI) (PLf : ZL) (z1 : Int32) (K : Int32 → Int32 → Prop), (∀  (y2 : Int32) (y3 : Int32), K y2 y3 → ∀ (H : Heap) (locs : List Loc), va_P G vwCl (pW q cs Nf Df Xf PMf PLf) H → va_D A (pW q cs Nf Df Xf PMf PLf) → va_S A s.heap H locs → ∀ ls : Array Slot, lv_has ls 4 [(0, .ref (q 0 99)), (1, .int z1), (2, .int y2), (3, .int y3)] → W p l e rm_X4_gap s m args below meth c H locs 0 0 (MQ below (va_Qi (fun (r : Int32) (u : ZI × ZI × ZI × ZI × ZL) => post r u.1 u.2.1 u.2.2.1 u.2.2.2.1 u.2.2.2.2) (CB G A (fun u => (pW q cs u.1 u.2.1 u.2.2.1 u.2.2.2.1 u.2.2.2.2))) A) args s 0 0 A) (F0 m 48 ls [])) → ∀ (n : Nat)  (y2 : Int32) (y3 : Int32), itF (w_X4_gap_L21 Nf Df Xf PMf PLf z1 post K) (fun _ _ => False) n y2 y3 → ∀ (H : Heap) (locs : List Loc), va_P G vwCl (pW q cs Nf Df Xf PMf PLf) H → va_D A (pW q cs Nf Df Xf PMf PLf) → va_S A s.heap H locs → ∀ ls : Array Slot, lv_has ls 4 [(0, .ref (q 0 99)), (1, .int z1), (2, .int y2), (3, .int y3)] → W p l e rm_X4_gap s m args below meth c H locs 0 0 (MQ below (va_Qi (fun (r : Int32) (u : ZI × ZI × ZI × ZI × ZL) => post r u.1 u.2.1 u.2.2.1 u.2.2.2.1 u.2.2.2.2) (CB G A (fun u => (pW q cs u.1 u.2.1 u.2.2.1 u.2.2.2.1 u.2.2.2.2))) A) args s 0 0 A) (F0 m 21 ls []) := by
    intro Nf Df Xf PMf PLf z1 K hKK n
    induction n with
    | zero =>
      intro y2 y3 h
      exact absurd h id
    | succ n ih =>
      intro y2 y3 h H locs hP hD hS ls hl
      have h : w_X4_gap_L21 Nf Df Xf PMf PLf z1 post K (itF (w_X4_gap_L21 Nf Df Xf PMf PLf z1 post K) (fun _ _ => False) n) y2 y3 := h
      generalize itF (w_X4_gap_L21 Nf Df Xf PMf PLf z1 post K) (fun _ _ => False) n = rec at h ih
      unfold w_X4_gap_L21 at h
      refine lv_iload_n hx hb dX4_gap_21 rfl (lv_at hl 3 rfl) ?_
      refine lv_bipush (v := 9) hx hb dX4_gap_22 (by decide) ?_
      refine lv_icmp_gt (tgt := 48) hx hb dX4_gap_24 (by decide) (fun ct => ?_) (fun ct => ?_)
      · have h := h.1 ct
        exact hKK _ _ h _ _ hP hD hS ls (lv_sub hl [0, 1, 2, 3] rfl)
      · have h := h.2 ct
        refine lv_iload_n hx hb dX4_gap_27 rfl (lv_at hl 1 rfl) ?_
        refine lv_iload_n hx hb dX4_gap_28 rfl (lv_at hl 3 rfl) ?_
        refine cl_Si (rn_S (rest := []) hx hb hml hown hT hl.1 ck_X4_153 (c_X4_leftOfEdge l z1 y3 _ h) ⟨rfl, rfl, (Nat.le_of_ble_eq_true rfl), (Nat.le_of_ble_eq_true rfl)⟩ ⟨Nat.zero_le _, Nat.zero_le _⟩ rfl rfl (Nat.le_of_ble_eq_true rfl) dX4_gap_29) (fun r2 h => ?_)
        refine lv_iload_n hx hb dX4_gap_32 rfl (lv_at hl 1 rfl) ?_
        refine lv_iload_n hx hb dX4_gap_33 rfl (lv_at hl 2 rfl) ?_
        refine cl_Si (rn_S (rest := [.int r2]) hx hb hml hown hT hl.1 ck_X4_153 (c_X4_leftOfEdge l z1 y2 _ h) ⟨rfl, rfl, (Nat.le_of_ble_eq_true rfl), (Nat.le_of_ble_eq_true rfl)⟩ ⟨Nat.zero_le _, Nat.zero_le _⟩ rfl rfl (Nat.le_of_ble_eq_true rfl) dX4_gap_34) (fun r3 h => ?_)
        refine lv_icmp_ge (tgt := 42) hx hb dX4_gap_37 (by decide) (fun ct => ?_) (fun ct => ?_)
        · have h := h.1 ct
          refine lv_iinc (v := y3 + 1) (lv' := [(3, .int (y3 + 1)), (0, .ref (q 0 99)), (1, .int z1), (2, .int y2)]) hx hb dX4_gap_42 hl (k := 3) rfl rfl (by decide) rfl (fun ls hl => ?_)
          refine lv_goto (tgt := 21) hx hb dX4_gap_45 (by decide) ?_
          exact ih _ _ h _ _ hP hD hS ls (lv_sub hl [1, 2, 3, 0] rfl)
        · have h := h.2 ct
          refine lv_iload_n hx hb dX4_gap_40 rfl (lv_at hl 3 rfl) ?_
          refine lv_istore_n (lv' := [(2, .int y3), (0, .ref (q 0 99)), (1, .int z1), (3, .int y3)]) hx hb dX4_gap_41 rfl hl (by decide) rfl (fun ls hl => ?_)
          refine lv_iinc (v := y3 + 1) (lv' := [(3, .int (y3 + 1)), (2, .int y3), (0, .ref (q 0 99)), (1, .int z1)]) hx hb dX4_gap_42 hl (k := 3) rfl rfl (by decide) rfl (fun ls hl => ?_)
          refine lv_goto (tgt := 21) hx hb dX4_gap_45 (by decide) ?_
          exact ih _ _ h _ _ hP hD hS ls (lv_sub hl [2, 3, 1, 0] rfl)
  refine lv_iload_n hx hb dX4_gap_0 rfl (lv_at hl 1 rfl) ?_
  refine lv_iconst (v := 4) hx hb dX4_gap_1 (by decide) ?_
  refine lv_bipush (v := 99) hx hb dX4_gap_2 (by decide) ?_
  refine cl_Si (rn_S (rest := []) hx hb hml hown hT hl.1 ck_X4_51 (c_X4_within l x1 4 99 _ h) ⟨rfl, rfl, (Nat.le_of_ble_eq_true rfl), (Nat.le_of_ble_eq_true rfl)⟩ ⟨Nat.zero_le _, Nat.zero_le _⟩ rfl rfl (Nat.le_of_ble_eq_true rfl) dX4_gap_4) (fun r1 h => ?_)
  refine lv_if_ne (tgt := 17) hx hb dX4_gap_7 (by decide) (fun ct => ?_) (fun ct => ?_)
  · have h := h.1 ct
    refine lv_iconst (v := 0) hx hb dX4_gap_17 (by decide) ?_
    refine lv_istore_n (lv' := [(2, .int 0), (0, .ref (q 0 99)), (1, .int x1)]) hx hb dX4_gap_18 rfl hl (by decide) rfl (fun ls hl => ?_)
    refine lv_iconst (v := 1) hx hb dX4_gap_19 (by decide) ?_
    refine lv_istore_n (lv' := [(3, .int 1), (2, .int 0), (0, .ref (q 0 99)), (1, .int x1)]) hx hb dX4_gap_20 rfl hl (by decide) rfl (fun ls hl => ?_)
    obtain ⟨n6, h⟩ := h
    refine HL21 _ _ _ _ _ _ _ (fun v4 v5 h H locs hP hD hS ls hl => ?_) n6 _ _ h _ _ hP hD hS ls (lv_sub hl [2, 3, 1, 0] rfl)
    refine lv_iload_n hx hb dX4_gap_48 rfl (lv_at hl 2 rfl) ?_
    exact rt_Wi hx hb hr hlk dX4_gap_49 (N, D, X, PM, PL) hP hD hS h
  · have h := h.2 ct
    refine lv_aload_n hx hb dX4_gap_10 rfl (lv_at hl 0 rfl) ?_
    refine lv_bipush (v := (-2)) hx hb dX4_gap_11 (by decide) ?_
    refine wi_allP (rn_V (rest := []) (ci := 2) hx hb hml hown hT hl.1 hC hS hP hD 0 rfl rfl rfl ck_X4_55 (c_X4_refuseBad l G cs ts q H.size N D X PM PL (-2) _ h) ⟨rfl, rfl, (Nat.le_of_ble_eq_true rfl), (Nat.le_of_ble_eq_true rfl)⟩ ⟨Nat.le_refl _, Nat.le_refl _⟩ rfl rfl (Nat.le_of_ble_eq_true rfl) dX4_gap_13) hD hS hA (fun r7 N8 D9 X10 PM11 PL12 H locs hP hD hS h => ?_)
    exact rt_Wi hx hb hr hlk dX4_gap_16 (N8, D9, X10, PM11, PL12) hP hD hS h
abbrev rm_X4_placeEverywhere : Room := { frames := 3, cells := 0, slots := 0, locals := 66 }
set_option maxRecDepth 100000 in
set_option maxHeartbeats 4000000 in
theorem c_X4_placeEverywhere (l : Launch) (G : va_G) (cs ts : Nat → Nat) (q : Nat → Nat → Nat) (sz : Nat)  (N : ZI) (D : ZI) (X : ZI) (PM : ZI) (PL : ZL)   (x1 : Int32) (post : ZI → ZI → ZI → ZI → ZL → Prop) (h : w_X4_placeEverywhere N D X PM PL x1 post) : Met l yX4_placeEverywhere [.code yX4_placeEverywhere cX4_placeEverywhere 5 none] rm_X4_placeEverywhere (va_Pc [.ref (q 0 99), .int x1] (CP G cs ts (pW q cs N D X PM PL) sz)) (va_Qv (fun (u : ZI × ZI × ZI × ZI × ZL) => post u.1 u.2.1 u.2.2.1 u.2.2.2.1 u.2.2.2.2) (CB G (va_A (pW q cs N D X PM PL) sz) (fun u => (pW q cs u.1 u.2.1 u.2.2.1 u.2.2.2.1 u.2.2.2.2))) (va_A (pW q cs N D X PM PL) sz)) 0 0 (va_A (pW q cs N D X PM PL) sz) := by
  refine ax_W (Qc := fun A => va_Qv (fun (u : ZI × ZI × ZI × ZI × ZL) => post u.1 u.2.1 u.2.2.1 u.2.2.2.1 u.2.2.2.2) (CB G A (fun u => (pW q cs u.1 u.2.1 u.2.2.1 u.2.2.2.1 u.2.2.2.2))) A) (by decide) (Nat.le_of_ble_eq_true rfl) sz ?_
  intro p e s m args below meth c A hx hb hr hlk hml hown hT hC hnm H locs hP hD hS ls hl
  have hK := hC.2.1
  have hA := hC.2.2
  have hl : lv_has ls 5 [(0, .ref (q 0 99)), (1, .int x1)] := hl
  unfold w_X4_placeEverywhere at h
  have HL16 : ∀ (Nf : ZI) (Df : ZI) (Xf : ZI) (PMf : ZI) (z1 : Int32) (z2 : Int32) (z3 : Int32) (K : ZL → Int32 → Prop), (∀ (PLv : ZL) (y4 : Int32), K PLv y4 → ∀ (H : Heap) (locs : List Loc), va_P G vwCl (pW q cs Nf Df Xf PMf PLv) H → va_D A (pW q cs Nf Df Xf PMf PLv) → va_S A s.heap H locs → ∀ ls : Array Slot, lv_has ls 5 [(0, .ref (q 0 99)), (1, .int z1), (2, .int z2), (3, .int z3), (4, .int y4)] → W p l e rm_X4_placeEverywhere s m args below meth c H locs 0 0 (MQ below (va_Qv (fun (u : ZI × ZI × ZI × ZI × ZL) => post u.1 u.2.1 u.2.2.1 u.2.2.2.1 u.2.2.2.2) (CB G A (fun u => (pW q cs u.1 u.2.1 u.2.2.1 u.2.2.2.1 u.2.2.2.2))) A) args s 0 0 A) (F0 m 55 ls [])) → ∀ (n : Nat) (PLv : ZL) (y4 : Int32), itF (w_X4_placeEverywhere_L16 Nf Df Xf PMf z1 z2 z3 post K) (fun _ _ => False) n PLv y4 → ∀ (H : Heap) (locs : List Loc), va_P G vwCl (pW q cs Nf Df Xf PMf PLv) H → va_D A (pW q cs Nf Df Xf PMf PLv) → va_S A s.heap H locs → ∀ ls : Array Slot, lv_has ls 5 [(0, .ref (q 0 99)), (1, .int z1), (2, .int z2), (3, .int z3), (4, .int y4)] → W p l e rm_X4_placeEverywhere s m args below meth c H locs 0 0 (MQ below (va_Qv (fun (u : ZI × ZI × ZI × ZI × ZL) => post u.1 u.2.1 u.2.2.1 u.2.2.2.1 u.2.2.2.2) (CB G A (fun u => (pW q cs u.1 u.2.1 u.2.2.1 u.2.2.2.1 u.2.2.2.2))) A) args s 0 0 A) (F0 m 16 ls []) := by
    intro Nf Df Xf PMf z1 z2 z3 K hKK n
    induction n with
    | zero =>
      intro PLv y4 h
      exact absurd h id
    | succ n ih =>
      intro PLv y4 h H locs hP hD hS ls hl
      have h : w_X4_placeEverywhere_L16 Nf Df Xf PMf z1 z2 z3 post K (itF (w_X4_placeEverywhere_L16 Nf Df Xf PMf z1 z2 z3 post K) (fun _ _ => False) n) PLv y4 := h
      generalize itF (w_X4_placeEverywhere_L16 Nf Df Xf PMf z1 z2 z3 post K) (fun _ _ => False) n = rec at h ih
      unfold w_X4_placeEverywhere_L16 at h
      refine lv_iload hx hb dX4_placeEverywhere_16 (lv_at hl 4 rfl) ?_
      refine lv_bipush (v := 63) hx hb dX4_placeEverywhere_18 (by decide) ?_
      refine lv_icmp_gt (tgt := 55) hx hb dX4_placeEverywhere_20 (by decide) (fun ct => ?_) (fun ct => ?_)
      · have h := h.1 ct
        exact hKK _ _ h _ _ hP hD hS ls (lv_sub hl [0, 1, 2, 3, 4] rfl)
      · have h := h.2 ct
        refine lv_aload_n hx hb dX4_placeEverywhere_23 rfl (lv_at hl 0 rfl) ?_
        refine gf_X4_30 hx hb hT hown hK hP 0 rfl rfl dX4_placeEverywhere_24 ?_
        refine lv_bipush (v := 64) hx hb dX4_placeEverywhere_27 (by decide) ?_
        refine lv_iload_n hx hb dX4_placeEverywhere_29 rfl (lv_at hl 2 rfl) ?_
        refine lv_imul hx hb dX4_placeEverywhere_30 ?_
        refine lv_iload hx hb dX4_placeEverywhere_31 (lv_at hl 4 rfl) ?_
        refine lv_iadd hx hb dX4_placeEverywhere_33 ?_
        refine lv_iload_n hx hb dX4_placeEverywhere_34 rfl (lv_at hl 3 rfl) ?_
        refine lv_iload hx hb dX4_placeEverywhere_35 (lv_at hl 4 rfl) ?_
        refine lv_bipush (v := 8) hx hb dX4_placeEverywhere_37 (by decide) ?_
        refine lv_irem hx hb dX4_placeEverywhere_39 (by decide) ?_
        refine lv_iload hx hb dX4_placeEverywhere_40 (lv_at hl 4 rfl) ?_
        refine lv_bipush (v := 8) hx hb dX4_placeEverywhere_42 (by decide) ?_
        refine lv_idiv hx hb dX4_placeEverywhere_44 (by decide) ?_
        refine cl_Sl (rn_SN (rest := [.int ((64 * z2) + y4), .ref (q 0 4)]) hx hb hml hown hT hl.1 ck_X4_216 (c_X1_placed l z3 (jrem y4 8) (y4 / 8) _ h) ⟨rfl, rfl, (Nat.le_of_ble_eq_true rfl), (Nat.le_of_ble_eq_true rfl)⟩ ⟨Nat.zero_le _, Nat.zero_le _⟩ rfl rfl (Nat.le_of_ble_eq_true rfl) dX4_placeEverywhere_45) (fun r2 h => ?_)
        obtain ⟨hi, h⟩ := h
        refine va_last hx hb hK hP hD hS 20 2 rfl rfl hi dX4_placeEverywhere_48 (fun H locs hP hD hS => ?_)
        obtain ⟨PL3, ePL3⟩ : ∃ z : ZL, z = ml PLv 4 ((64 * z2) + y4).toNatClampNeg r2 := ⟨_, rfl⟩
        have h := h PL3 ePL3
        have hP : va_P G vwCl (pW q cs Nf Df Xf PMf PL3) H := by rw [ePL3]; exact hP
        have hD : va_D A (pW q cs Nf Df Xf PMf PL3) := by rw [ePL3]; exact hD
        refine lv_iinc (v := y4 + 1) (lv' := [(4, .int (y4 + 1)), (0, .ref (q 0 99)), (1, .int z1), (2, .int z2), (3, .int z3)]) hx hb dX4_placeEverywhere_49 hl (k := 4) rfl rfl (by decide) rfl (fun ls hl => ?_)
        refine lv_goto (tgt := 16) hx hb dX4_placeEverywhere_52 (by decide) ?_
        exact ih _ _ h _ _ hP hD hS ls (lv_sub hl [1, 2, 3, 4, 0] rfl)
  have HL2 : ∀ (Nf : ZI) (Df : ZI) (Xf : ZI) (PMf : ZI) (z1 : Int32) (K : ZL → Int32 → Prop), (∀ (PLv : ZL) (y2 : Int32), K PLv y2 → ∀ (H : Heap) (locs : List Loc), va_P G vwCl (pW q cs Nf Df Xf PMf PLv) H → va_D A (pW q cs Nf Df Xf PMf PLv) → va_S A s.heap H locs → ∀ ls : Array Slot, lv_has ls 5 [(0, .ref (q 0 99)), (1, .int z1), (2, .int y2)] → W p l e rm_X4_placeEverywhere s m args below meth c H locs 0 0 (MQ below (va_Qv (fun (u : ZI × ZI × ZI × ZI × ZL) => post u.1 u.2.1 u.2.2.1 u.2.2.2.1 u.2.2.2.2) (CB G A (fun u => (pW q cs u.1 u.2.1 u.2.2.1 u.2.2.2.1 u.2.2.2.2))) A) args s 0 0 A) (F0 m 61 ls [])) → ∀ (n : Nat) (PLv : ZL) (y2 : Int32), itF (w_X4_placeEverywhere_L2 Nf Df Xf PMf z1 post K) (fun _ _ => False) n PLv y2 → ∀ (H : Heap) (locs : List Loc), va_P G vwCl (pW q cs Nf Df Xf PMf PLv) H → va_D A (pW q cs Nf Df Xf PMf PLv) → va_S A s.heap H locs → ∀ ls : Array Slot, lv_has ls 5 [(0, .ref (q 0 99)), (1, .int z1), (2, .int y2)] → W p l e rm_X4_placeEverywhere s m args below meth c H locs 0 0 (MQ below (va_Qv (fun (u : ZI × ZI × ZI × ZI × ZL) => post u.1 u.2.1 u.2.2.1 u.2.2.2.1 u.2.2.2.2) (CB G A (fun u => (pW q cs u.1 u.2.1 u.2.2.1 u.2.2.2.1 u.2.2.2.2))) A) args s 0 0 A) (F0 m 2 ls []) := by
    intro Nf Df Xf PMf z1 K hKK n
    induction n with
    | zero =>
      intro PLv y2 h
      exact absurd h id
    | succ n ih =>
      intro PLv y2 h H locs hP hD hS ls hl
      have h : w_X4_placeEverywhere_L2 Nf Df Xf PMf z1 post K (itF (w_X4_placeEverywhere_L2 Nf Df Xf PMf z1 post K) (fun _ _ => False) n) PLv y2 := h
      generalize itF (w_X4_placeEverywhere_L2 Nf Df Xf PMf z1 post K) (fun _ _ => False) n = rec at h ih
      unfold w_X4_placeEverywhere_L2 at h
      refine lv_iload_n hx hb dX4_placeEverywhere_2 rfl (lv_at hl 2 rfl) ?_
      refine lv_iconst (v := 3) hx hb dX4_placeEverywhere_3 (by decide) ?_
      refine lv_icmp_gt (tgt := 61) hx hb dX4_placeEverywhere_4 (by decide) (fun ct => ?_) (fun ct => ?_)
      · have h := h.1 ct
        exact hKK _ _ h _ _ hP hD hS ls (lv_sub hl [0, 1, 2] rfl)
      · have h := h.2 ct
        refine lv_iload_n hx hb dX4_placeEverywhere_7 rfl (lv_at hl 1 rfl) ?_
        refine lv_iload_n hx hb dX4_placeEverywhere_8 rfl (lv_at hl 2 rfl) ?_
        refine cl_Si (rn_SN (rest := []) hx hb hml hown hT hl.1 ck_X4_126 (c_X1_printed l z1 y2 _ h) ⟨rfl, rfl, (Nat.le_of_ble_eq_true rfl), (Nat.le_of_ble_eq_true rfl)⟩ ⟨Nat.zero_le _, Nat.zero_le _⟩ rfl rfl (Nat.le_of_ble_eq_true rfl) dX4_placeEverywhere_9) (fun r1 h => ?_)
        refine lv_istore_n (lv' := [(3, .int r1), (0, .ref (q 0 99)), (1, .int z1), (2, .int y2)]) hx hb dX4_placeEverywhere_12 rfl hl (by decide) rfl (fun ls hl => ?_)
        refine lv_iconst (v := 0) hx hb dX4_placeEverywhere_13 (by decide) ?_
        refine lv_istore (lv' := [(4, .int 0), (3, .int r1), (0, .ref (q 0 99)), (1, .int z1), (2, .int y2)]) hx hb dX4_placeEverywhere_14 hl (by decide) rfl (fun ls hl => ?_)
        obtain ⟨n6, h⟩ := h
        refine HL16 _ _ _ _ _ _ _ _ (fun PL4 v5 h H locs hP hD hS ls hl => ?_) n6 _ _ h _ _ hP hD hS ls (lv_sub hl [2, 3, 4, 1, 0] rfl)
        refine lv_iinc (v := y2 + 1) (lv' := [(2, .int (y2 + 1)), (0, .ref (q 0 99)), (1, .int z1), (3, .int r1), (4, .int v5)]) hx hb dX4_placeEverywhere_55 hl (k := 2) rfl rfl (by decide) rfl (fun ls hl => ?_)
        refine lv_goto (tgt := 2) hx hb dX4_placeEverywhere_58 (by decide) ?_
        exact ih _ _ h _ _ hP hD hS ls (lv_sub hl [1, 2, 0] rfl)
  refine lv_iconst (v := 0) hx hb dX4_placeEverywhere_0 (by decide) ?_
  refine lv_istore_n (lv' := [(2, .int 0), (0, .ref (q 0 99)), (1, .int x1)]) hx hb dX4_placeEverywhere_1 rfl hl (by decide) rfl (fun ls hl => ?_)
  obtain ⟨n9, h⟩ := h
  refine HL2 _ _ _ _ _ _ (fun PL7 v8 h H locs hP hD hS ls hl => ?_) n9 _ _ h _ _ hP hD hS ls (lv_sub hl [1, 2, 0] rfl)
  exact rt_Wv hx hb hr hlk dX4_placeEverywhere_61 (N, D, X, PM, PL7) hP hD hS h
abbrev rm_X4_hit : Room := { frames := 4, cells := 0, slots := 0, locals := 90 }
set_option maxRecDepth 100000 in
set_option maxHeartbeats 4000000 in
theorem c_X4_hit (l : Launch) (G : va_G) (cs ts : Nat → Nat) (q : Nat → Nat → Nat) (sz : Nat)  (N : ZI) (D : ZI) (X : ZI) (PM : ZI) (PL : ZL)   (x1 : Int32) (x2 : Int32) (post : Int32 → ZI → ZI → ZI → ZI → ZL → Prop) (h : w_X4_hit N D X PM PL x1 x2 post) : Met l yX4_hit [.code yX4_hit cX4_hit 9 (some .int)] rm_X4_hit (va_Pc [.ref (q 0 99), .int x1, .int x2] (CP G cs ts (pW q cs N D X PM PL) sz)) (va_Qi (fun (r : Int32) (u : ZI × ZI × ZI × ZI × ZL) => post r u.1 u.2.1 u.2.2.1 u.2.2.2.1 u.2.2.2.2) (CB G (va_A (pW q cs N D X PM PL) sz) (fun u => (pW q cs u.1 u.2.1 u.2.2.1 u.2.2.2.1 u.2.2.2.2))) (va_A (pW q cs N D X PM PL) sz)) 0 0 (va_A (pW q cs N D X PM PL) sz) := by
  refine ax_W (Qc := fun A => va_Qi (fun (r : Int32) (u : ZI × ZI × ZI × ZI × ZL) => post r u.1 u.2.1 u.2.2.1 u.2.2.2.1 u.2.2.2.2) (CB G A (fun u => (pW q cs u.1 u.2.1 u.2.2.1 u.2.2.2.1 u.2.2.2.2))) A) (by decide) (Nat.le_of_ble_eq_true rfl) sz ?_
  intro p e s m args below meth c A hx hb hr hlk hml hown hT hC hnm H locs hP hD hS ls hl
  have hK := hC.2.1
  have hA := hC.2.2
  have hl : lv_has ls 9 [(0, .ref (q 0 99)), (1, .int x1), (2, .int x2)] := hl
  unfold w_X4_hit at h
  have HL55 : ∀ (Nf : ZI) (Df : ZI) (Xf : ZI) (PMf : ZI) (PLf : ZL) (z1 : Int32) (z2 : Int32) (z3 : Int64) (K : Int32 → Int32 → Int32 → Prop), (∀  (y5 : Int32) (y6 : Int32) (y7 : Int32), K y5 y6 y7 → ∀ (H : Heap) (locs : List Loc), va_P G vwCl (pW q cs Nf Df Xf PMf PLf) H → va_D A (pW q cs Nf Df Xf PMf PLf) → va_S A s.heap H locs → ∀ ls : Array Slot, lv_has ls 9 [(0, .ref (q 0 99)), (1, .int z1), (2, .int z2), (3, .long z3), (5, .int y5), (6, .int y6), (7, .int y7)] → W p l e rm_X4_hit s m args below meth c H locs 0 0 (MQ below (va_Qi (fun (r : Int32) (u : ZI × ZI × ZI × ZI × ZL) => post r u.1 u.2.1 u.2.2.1 u.2.2.2.1 u.2.2.2.2) (CB G A (fun u => (pW q cs u.1 u.2.1 u.2.2.1 u.2.2.2.1 u.2.2.2.2))) A) args s 0 0 A) (F0 m 109 ls [])) → ∀ (n : Nat)  (y5 : Int32) (y6 : Int32) (y7 : Int32), itF (w_X4_hit_L55 Nf Df Xf PMf PLf z1 z2 z3 post K) (fun _ _ _ => False) n y5 y6 y7 → ∀ (H : Heap) (locs : List Loc), va_P G vwCl (pW q cs Nf Df Xf PMf PLf) H → va_D A (pW q cs Nf Df Xf PMf PLf) → va_S A s.heap H locs → ∀ ls : Array Slot, lv_has ls 9 [(0, .ref (q 0 99)), (1, .int z1), (2, .int z2), (3, .long z3), (5, .int y5), (6, .int y6), (7, .int y7)] → W p l e rm_X4_hit s m args below meth c H locs 0 0 (MQ below (va_Qi (fun (r : Int32) (u : ZI × ZI × ZI × ZI × ZL) => post r u.1 u.2.1 u.2.2.1 u.2.2.2.1 u.2.2.2.2) (CB G A (fun u => (pW q cs u.1 u.2.1 u.2.2.1 u.2.2.2.1 u.2.2.2.2))) A) args s 0 0 A) (F0 m 55 ls []) := by
    intro Nf Df Xf PMf PLf z1 z2 z3 K hKK n
    induction n with
    | zero =>
      intro y5 y6 y7 h
      exact absurd h id
    | succ n ih =>
      intro y5 y6 y7 h H locs hP hD hS ls hl
      have h : w_X4_hit_L55 Nf Df Xf PMf PLf z1 z2 z3 post K (itF (w_X4_hit_L55 Nf Df Xf PMf PLf z1 z2 z3 post K) (fun _ _ _ => False) n) y5 y6 y7 := h
      generalize itF (w_X4_hit_L55 Nf Df Xf PMf PLf z1 z2 z3 post K) (fun _ _ _ => False) n = rec at h ih
      unfold w_X4_hit_L55 at h
      refine lv_iload hx hb dX4_hit_55 (lv_at hl 6 rfl) ?_
      refine lv_sipush (v := 256) hx hb dX4_hit_57 (by decide) ?_
      refine lv_icmp_ge (tgt := 109) hx hb dX4_hit_60 (by decide) (fun ct => ?_) (fun ct => ?_)
      · have h := h.1 ct
        exact hKK _ _ _ h _ _ hP hD hS ls (lv_sub hl [0, 1, 2, 3, 4, 5, 6] rfl)
      · have h := h.2 ct
        refine lv_aload_n hx hb dX4_hit_63 rfl (lv_at hl 0 rfl) ?_
        refine gf_X4_30 hx hb hT hown hK hP 0 rfl rfl dX4_hit_64 ?_
        refine lv_iload hx hb dX4_hit_67 (lv_at hl 6 rfl) ?_
        obtain ⟨hi, h⟩ := h
        refine va_lald hx hb hK hP 20 2 rfl rfl hi dX4_hit_69 ?_
        refine lv_lload_n hx hb dX4_hit_70 rfl (lv_at hl 3 rfl) ?_
        refine lv_land hx hb dX4_hit_71 ?_
        refine cl_Si (rn_S (rest := []) hx hb hml hown hT hl.1 ck_X4_63 (c_J13_bitCount_95d88 l ((PLf 4 y7.toNatClampNeg) &&& z3) _ h) ⟨rfl, rfl, (Nat.le_of_ble_eq_true rfl), (Nat.le_of_ble_eq_true rfl)⟩ ⟨Nat.zero_le _, Nat.zero_le _⟩ rfl rfl (Nat.le_of_ble_eq_true rfl) dX4_hit_72) (fun r16 h => ?_)
        refine lv_istore (lv' := [(8, .int r16), (0, .ref (q 0 99)), (1, .int z1), (2, .int z2), (3, .long z3), (5, .int y5), (6, .int y6), (7, .int y7)]) hx hb dX4_hit_75 hl (by decide) rfl (fun ls hl => ?_)
        refine lv_iload hx hb dX4_hit_77 (lv_at hl 7 rfl) ?_
        refine cl_Si (rn_S (rest := []) hx hb hml hown hT hl.1 ck_X4_159 (c_X4_isWhollyOnSheet l y7 _ h) ⟨rfl, rfl, (Nat.le_of_ble_eq_true rfl), (Nat.le_of_ble_eq_true rfl)⟩ ⟨Nat.zero_le _, Nat.zero_le _⟩ rfl rfl (Nat.le_of_ble_eq_true rfl) dX4_hit_79) (fun r17 h => ?_)
        refine lv_if_eq (tgt := 103) hx hb dX4_hit_82 (by decide) (fun ct => ?_) (fun ct => ?_)
        · have h := h.1 ct
          refine lv_iinc (v := y7 + 1) (lv' := [(7, .int (y7 + 1)), (8, .int r16), (0, .ref (q 0 99)), (1, .int z1), (2, .int z2), (3, .long z3), (5, .int y5), (6, .int y6)]) hx hb dX4_hit_103 hl (k := 7) rfl rfl (by decide) rfl (fun ls hl => ?_)
          refine lv_goto (tgt := 55) hx hb dX4_hit_106 (by decide) ?_
          exact ih _ _ _ h _ _ hP hD hS ls (lv_sub hl [2, 3, 4, 5, 6, 7, 0] rfl)
        · have h := h.2 ct
          refine lv_iload hx hb dX4_hit_85 (lv_at hl 0 rfl) ?_
          refine lv_iload hx hb dX4_hit_87 (lv_at hl 5 rfl) ?_
          refine lv_icmp_le (tgt := 103) hx hb dX4_hit_89 (by decide) (fun ct => ?_) (fun ct => ?_)
          · have h := h.1 ct
            refine lv_iinc (v := y7 + 1) (lv' := [(7, .int (y7 + 1)), (8, .int r16), (0, .ref (q 0 99)), (1, .int z1), (2, .int z2), (3, .long z3), (5, .int y5), (6, .int y6)]) hx hb dX4_hit_103 hl (k := 7) rfl rfl (by decide) rfl (fun ls hl => ?_)
            refine lv_goto (tgt := 55) hx hb dX4_hit_106 (by decide) ?_
            exact ih _ _ _ h _ _ hP hD hS ls (lv_sub hl [2, 3, 4, 5, 6, 7, 0] rfl)
          · have h := h.2 ct
            refine lv_iload hx hb dX4_hit_92 (lv_at hl 0 rfl) ?_
            refine lv_istore (lv' := [(5, .int r16), (8, .int r16), (0, .ref (q 0 99)), (1, .int z1), (2, .int z2), (3, .long z3), (6, .int y6), (7, .int y7)]) hx hb dX4_hit_94 hl (by decide) rfl (fun ls hl => ?_)
            refine lv_iload hx hb dX4_hit_96 (lv_at hl 7 rfl) ?_
            refine cl_Si (rn_S (rest := []) hx hb hml hown hT hl.1 ck_X4_163 (c_X4_placingNumber l y7 _ h) ⟨rfl, rfl, (Nat.le_of_ble_eq_true rfl), (Nat.le_of_ble_eq_true rfl)⟩ ⟨Nat.zero_le _, Nat.zero_le _⟩ rfl rfl (Nat.le_of_ble_eq_true rfl) dX4_hit_98) (fun r18 h => ?_)
            refine lv_istore (lv' := [(6, .int r18), (5, .int r16), (8, .int r16), (0, .ref (q 0 99)), (1, .int z1), (2, .int z2), (3, .long z3), (7, .int y7)]) hx hb dX4_hit_101 hl (by decide) rfl (fun ls hl => ?_)
            refine lv_iinc (v := y7 + 1) (lv' := [(7, .int (y7 + 1)), (6, .int r18), (5, .int r16), (8, .int r16), (0, .ref (q 0 99)), (1, .int z1), (2, .int z2), (3, .long z3)]) hx hb dX4_hit_103 hl (k := 7) rfl rfl (by decide) rfl (fun ls hl => ?_)
            refine lv_goto (tgt := 55) hx hb dX4_hit_106 (by decide) ?_
            exact ih _ _ _ h _ _ hP hD hS ls (lv_sub hl [4, 5, 6, 7, 2, 1, 0] rfl)
  refine lv_iload_n hx hb dX4_hit_0 rfl (lv_at hl 1 rfl) ?_
  refine lv_iconst (v := 0) hx hb dX4_hit_1 (by decide) ?_
  refine lv_iconst (v := 1) hx hb dX4_hit_2 (by decide) ?_
  refine cl_Si (rn_S (rest := []) hx hb hml hown hT hl.1 ck_X4_51 (c_X4_within l x1 0 1 _ h) ⟨rfl, rfl, (Nat.le_of_ble_eq_true rfl), (Nat.le_of_ble_eq_true rfl)⟩ ⟨Nat.zero_le _, Nat.zero_le _⟩ rfl rfl (Nat.le_of_ble_eq_true rfl) dX4_hit_3) (fun r1 h => ?_)
  refine lv_if_eq (tgt := 18) hx hb dX4_hit_6 (by decide) (fun ct => ?_) (fun ct => ?_)
  · have h := h.1 ct
    refine lv_aload_n hx hb dX4_hit_18 rfl (lv_at hl 0 rfl) ?_
    refine lv_bipush (v := (-2)) hx hb dX4_hit_19 (by decide) ?_
    refine wi_allP (rn_V (rest := []) (ci := 2) hx hb hml hown hT hl.1 hC hS hP hD 0 rfl rfl rfl ck_X4_55 (c_X4_refuseBad l G cs ts q H.size N D X PM PL (-2) _ h) ⟨rfl, rfl, (Nat.le_of_ble_eq_true rfl), (Nat.le_of_ble_eq_true rfl)⟩ ⟨Nat.le_refl _, Nat.le_refl _⟩ rfl rfl (Nat.le_of_ble_eq_true rfl) dX4_hit_21) hD hS hA (fun r2 N3 D4 X5 PM6 PL7 H locs hP hD hS h => ?_)
    exact rt_Wi hx hb hr hlk dX4_hit_24 (N3, D4, X5, PM6, PL7) hP hD hS h
  · have h := h.2 ct
    refine lv_iload_n hx hb dX4_hit_9 rfl (lv_at hl 2 rfl) ?_
    refine lv_iconst (v := 0) hx hb dX4_hit_10 (by decide) ?_
    refine lv_iconst (v := 1) hx hb dX4_hit_11 (by decide) ?_
    refine cl_Si (rn_S (rest := []) hx hb hml hown hT hl.1 ck_X4_51 (c_X4_within l x2 0 1 _ h) ⟨rfl, rfl, (Nat.le_of_ble_eq_true rfl), (Nat.le_of_ble_eq_true rfl)⟩ ⟨Nat.zero_le _, Nat.zero_le _⟩ rfl rfl (Nat.le_of_ble_eq_true rfl) dX4_hit_12) (fun r8 h => ?_)
    refine lv_if_ne (tgt := 25) hx hb dX4_hit_15 (by decide) (fun ct => ?_) (fun ct => ?_)
    · have h := h.1 ct
      refine lv_aload_n hx hb dX4_hit_25 rfl (lv_at hl 0 rfl) ?_
      refine lv_aload_n hx hb dX4_hit_26 rfl (lv_at hl 0 rfl) ?_
      refine gf_X4_10 hx hb hT hown hK hP 0 rfl rfl dX4_hit_27 ?_
      refine gf_X4_74 hx hb hT hown hK hP 1 rfl rfl dX4_hit_30 ?_
      refine lv_iload_n hx hb dX4_hit_33 rfl (lv_at hl 1 rfl) ?_
      obtain ⟨hi, h⟩ := h
      refine va_iald hx hb hK hP 2 0 rfl rfl hi dX4_hit_34 ?_
      refine wv_allP (rn_V (rest := []) (ci := 2) hx hb hml hown hT hl.1 hC hS hP hD 0 rfl rfl rfl ck_X4_156 (c_X4_placeEverywhere l G cs ts q H.size N D X PM PL (N 0 x1.toNatClampNeg) _ h) ⟨rfl, rfl, (Nat.le_of_ble_eq_true rfl), (Nat.le_of_ble_eq_true rfl)⟩ ⟨Nat.le_refl _, Nat.le_refl _⟩ rfl rfl (Nat.le_of_ble_eq_true rfl) dX4_hit_35) hD hS hA (fun N9 D10 X11 PM12 PL13 H locs hP hD hS h => ?_)
      refine lv_aload_n hx hb dX4_hit_38 rfl (lv_at hl 0 rfl) ?_
      refine gf_X4_10 hx hb hT hown hK hP 0 rfl rfl dX4_hit_39 ?_
      refine wl_part (wr := List.filterMap (fun i : Nat => (pW q cs N9 D10 X11 PM12 PL13)[i]?) [0, 9, 10, 11, 12, 13, 14, 15, 16, 17, 18, 19, 20]) (w2 := fun u => (pW q cs u D10 X11 PM12 PL13)) [1, 2, 3, 4, 5, 6, 7, 8] [0, 9, 10, 11, 12, 13, 14, 15, 16, 17, 18, 19, 20] [0, 13, 14, 15, 16, 17, 18, 19, 20, 1, 2, 3, 4, 5, 6, 7, 8, 9, 10, 11, 12] (rn_VN (rest := []) (ci := 0) (wc := (tbW (q 1) cs N9)) hx hb hml hown hT hl.1 hC hS (hP.sub [1, 2, 3, 4, 5, 6, 7, 8] rfl) (hD.sub [1, 2, 3, 4, 5, 6, 7, 8] (by decide) rfl) 0 rfl rfl rfl ck_X4_59 (c_X2_darkCells l G cs ts (q 1) H.size N9  _ h) ⟨rfl, rfl, (Nat.le_of_ble_eq_true rfl), (Nat.le_of_ble_eq_true rfl)⟩ ⟨Nat.le_refl _, Nat.le_refl _⟩ rfl rfl (Nat.le_of_ble_eq_true rfl) dX4_hit_42) hP hD hS hA rfl rfl rfl (by decide) rfl (fun _ => rfl) (fun r14 N15 H locs hP hD hS h => ?_)
      refine lv_lstore_n (lv' := [(3, .long r14), (0, .ref (q 0 99)), (1, .int x1), (2, .int x2)]) hx hb dX4_hit_45 rfl hl (by decide) rfl (fun ls hl => ?_)
      refine lv_iconst (v := 0) hx hb dX4_hit_46 (by decide) ?_
      refine lv_istore (lv' := [(5, .int 0), (3, .long r14), (0, .ref (q 0 99)), (1, .int x1), (2, .int x2)]) hx hb dX4_hit_47 hl (by decide) rfl (fun ls hl => ?_)
      refine lv_iconst (v := (-1)) hx hb dX4_hit_49 (by decide) ?_
      refine lv_istore (lv' := [(6, .int (-1)), (5, .int 0), (3, .long r14), (0, .ref (q 0 99)), (1, .int x1), (2, .int x2)]) hx hb dX4_hit_50 hl (by decide) rfl (fun ls hl => ?_)
      refine lv_iconst (v := 0) hx hb dX4_hit_52 (by decide) ?_
      refine lv_istore (lv' := [(7, .int 0), (6, .int (-1)), (5, .int 0), (3, .long r14), (0, .ref (q 0 99)), (1, .int x1), (2, .int x2)]) hx hb dX4_hit_53 hl (by decide) rfl (fun ls hl => ?_)
      obtain ⟨n22, h⟩ := h
      refine HL55 _ _ _ _ _ _ _ _ _ (fun v19 v20 v21 h H locs hP hD hS ls hl => ?_) n22 _ _ _ h _ _ hP hD hS ls (lv_sub hl [4, 5, 6, 3, 2, 1, 0] rfl)
      refine lv_iload_n hx hb dX4_hit_109 rfl (lv_at hl 2 rfl) ?_
      refine lv_if_ne (tgt := 123) hx hb dX4_hit_110 (by decide) (fun ct => ?_) (fun ct => ?_)
      · have h := h.1 ct
        refine lv_iload hx hb dX4_hit_123 (lv_at hl 5 rfl) ?_
        exact rt_Wi hx hb hr hlk dX4_hit_125 (N15, D10, X11, PM12, PL13) hP hD hS h
      · have h := h.2 ct
        refine lv_iload hx hb dX4_hit_113 (lv_at hl 4 rfl) ?_
        refine lv_if_le (tgt := 123) hx hb dX4_hit_115 (by decide) (fun ct => ?_) (fun ct => ?_)
        · have h := h.1 ct
          refine lv_iload hx hb dX4_hit_123 (lv_at hl 5 rfl) ?_
          exact rt_Wi hx hb hr hlk dX4_hit_125 (N15, D10, X11, PM12, PL13) hP hD hS h
        · have h := h.2 ct
          refine lv_iload hx hb dX4_hit_118 (lv_at hl 4 rfl) ?_
          refine lv_goto (tgt := 125) hx hb dX4_hit_120 (by decide) ?_
          exact rt_Wi hx hb hr hlk dX4_hit_125 (N15, D10, X11, PM12, PL13) hP hD hS h
    · have h := h.2 ct
      refine lv_aload_n hx hb dX4_hit_18 rfl (lv_at hl 0 rfl) ?_
      refine lv_bipush (v := (-2)) hx hb dX4_hit_19 (by decide) ?_
      refine wi_allP (rn_V (rest := []) (ci := 2) hx hb hml hown hT hl.1 hC hS hP hD 0 rfl rfl rfl ck_X4_55 (c_X4_refuseBad l G cs ts q H.size N D X PM PL (-2) _ h) ⟨rfl, rfl, (Nat.le_of_ble_eq_true rfl), (Nat.le_of_ble_eq_true rfl)⟩ ⟨Nat.le_refl _, Nat.le_refl _⟩ rfl rfl (Nat.le_of_ble_eq_true rfl) dX4_hit_21) hD hS hA (fun r23 N24 D25 X26 PM27 PL28 H locs hP hD hS h => ?_)
      exact rt_Wi hx hb hr hlk dX4_hit_24 (N24, D25, X26, PM27, PL28) hP hD hS h
abbrev rm_X4_want : Room := { frames := 2, cells := 0, slots := 0, locals := 43 }
set_option maxRecDepth 100000 in
set_option maxHeartbeats 4000000 in
theorem c_X4_want (l : Launch) (G : va_G) (cs ts : Nat → Nat) (q : Nat → Nat → Nat) (sz : Nat)  (N : ZI) (D : ZI) (X : ZI) (PM : ZI) (PL : ZL)   (x1 : Int32) (x2 : Int32) (post : Int32 → ZI → ZI → ZI → ZI → ZL → Prop) (h : w_X4_want N D X PM PL x1 x2 post) : Met l yX4_want [.code yX4_want cX4_want 3 (some .int)] rm_X4_want (va_Pc [.ref (q 0 99), .int x1, .int x2] (CP G cs ts (pW q cs N D X PM PL) sz)) (va_Qi (fun (r : Int32) (u : ZI × ZI × ZI × ZI × ZL) => post r u.1 u.2.1 u.2.2.1 u.2.2.2.1 u.2.2.2.2) (CB G (va_A (pW q cs N D X PM PL) sz) (fun u => (pW q cs u.1 u.2.1 u.2.2.1 u.2.2.2.1 u.2.2.2.2))) (va_A (pW q cs N D X PM PL) sz)) 0 0 (va_A (pW q cs N D X PM PL) sz) := by
  refine ax_W (Qc := fun A => va_Qi (fun (r : Int32) (u : ZI × ZI × ZI × ZI × ZL) => post r u.1 u.2.1 u.2.2.1 u.2.2.2.1 u.2.2.2.2) (CB G A (fun u => (pW q cs u.1 u.2.1 u.2.2.1 u.2.2.2.1 u.2.2.2.2))) A) (by decide) (Nat.le_of_ble_eq_true rfl) sz ?_
  intro p e s m args below meth c A hx hb hr hlk hml hown hT hC hnm H locs hP hD hS ls hl
  have hK := hC.2.1
  have hA := hC.2.2
  have hl : lv_has ls 3 [(0, .ref (q 0 99)), (1, .int x1), (2, .int x2)] := hl
  unfold w_X4_want at h
  refine lv_iload_n hx hb dX4_want_0 rfl (lv_at hl 1 rfl) ?_
  refine lv_iload_n hx hb dX4_want_1 rfl (lv_at hl 2 rfl) ?_
  refine cl_Si (rn_S (rest := []) hx hb hml hown hT hl.1 ck_X4_119 (c_X4_isPlace l x1 x2 _ h) ⟨rfl, rfl, (Nat.le_of_ble_eq_true rfl), (Nat.le_of_ble_eq_true rfl)⟩ ⟨Nat.zero_le _, Nat.zero_le _⟩ rfl rfl (Nat.le_of_ble_eq_true rfl) dX4_want_2) (fun r1 h => ?_)
  refine lv_if_ne (tgt := 15) hx hb dX4_want_5 (by decide) (fun ct => ?_) (fun ct => ?_)
  · have h := h.1 ct
    refine lv_aload_n hx hb dX4_want_15 rfl (lv_at hl 0 rfl) ?_
    refine gf_X4_10 hx hb hT hown hK hP 0 rfl rfl dX4_want_16 ?_
    refine gf_X4_166 hx hb hT hown hK hP 1 rfl rfl dX4_want_19 ?_
    refine lv_bipush (v := 8) hx hb dX4_want_22 (by decide) ?_
    refine lv_icmp_lt (tgt := 32) hx hb dX4_want_24 (by decide) (fun ct => ?_) (fun ct => ?_)
    · have h := h.1 ct
      refine lv_aload_n hx hb dX4_want_32 rfl (lv_at hl 0 rfl) ?_
      refine gf_X4_10 hx hb hT hown hK hP 0 rfl rfl dX4_want_33 ?_
      refine gf_X4_169 hx hb hT hown hK hP 1 rfl rfl dX4_want_36 ?_
      refine lv_aload_n hx hb dX4_want_39 rfl (lv_at hl 0 rfl) ?_
      refine gf_X4_10 hx hb hT hown hK hP 0 rfl rfl dX4_want_40 ?_
      refine gf_X4_166 hx hb hT hown hK hP 1 rfl rfl dX4_want_43 ?_
      refine lv_bipush (v := 8) hx hb dX4_want_46 (by decide) ?_
      refine lv_iload_n hx hb dX4_want_48 rfl (lv_at hl 2 rfl) ?_
      refine lv_imul hx hb dX4_want_49 ?_
      refine lv_iload_n hx hb dX4_want_50 rfl (lv_at hl 1 rfl) ?_
      refine lv_iadd hx hb dX4_want_51 ?_
      obtain ⟨hi, h⟩ := h
      refine va_iast hx hb hK hP hD hS 4 0 rfl rfl hi dX4_want_52 (fun H locs hP hD hS => ?_)
      obtain ⟨N2, eN2⟩ : ∃ z : ZI, z = mu N 3 (N 4 0).toNatClampNeg ((8 * x2) + x1) := ⟨_, rfl⟩
      have h := h N2 eN2
      have hP : va_P G vwCl (pW q cs N2 D X PM PL) H := by rw [eN2]; exact hP
      have hD : va_D A (pW q cs N2 D X PM PL) := by rw [eN2]; exact hD
      refine lv_aload_n hx hb dX4_want_53 rfl (lv_at hl 0 rfl) ?_
      refine gf_X4_10 hx hb hT hown hK hP 0 rfl rfl dX4_want_54 ?_
      refine lv_dup hx hb dX4_want_57 rfl ?_
      refine gf_X4_166 hx hb hT hown hK hP 1 rfl rfl dX4_want_58 ?_
      refine lv_iconst (v := 1) hx hb dX4_want_61 (by decide) ?_
      refine lv_iadd hx hb dX4_want_62 ?_
      refine pf_X4_166 hx hb hT hown hK hP hD hS 1 rfl (Nat.le_of_ble_eq_true rfl) dX4_want_63 (fun H locs hP hD hS => ?_)
      obtain ⟨N3, eN3⟩ : ∃ z : ZI, z = mu N2 4 0 ((N2 4 0) + 1) := ⟨_, rfl⟩
      have h := h N3 eN3
      have hP : va_P G vwCl (pW q cs N3 D X PM PL) H := by rw [eN3]; exact hP
      have hD : va_D A (pW q cs N3 D X PM PL) := by rw [eN3]; exact hD
      refine lv_aload_n hx hb dX4_want_66 rfl (lv_at hl 0 rfl) ?_
      refine gf_X4_10 hx hb hT hown hK hP 0 rfl rfl dX4_want_67 ?_
      refine gf_X4_166 hx hb hT hown hK hP 1 rfl rfl dX4_want_70 ?_
      exact rt_Wi hx hb hr hlk dX4_want_73 (N3, D, X, PM, PL) hP hD hS h
    · have h := h.2 ct
      refine lv_aload_n hx hb dX4_want_27 rfl (lv_at hl 0 rfl) ?_
      refine wi_allP (rn_V (rest := []) (ci := 2) hx hb hml hown hT hl.1 hC hS hP hD 0 rfl rfl rfl ck_X4_105 (c_X4_refuseFull l G cs ts q H.size N D X PM PL  _ h) ⟨rfl, rfl, (Nat.le_of_ble_eq_true rfl), (Nat.le_of_ble_eq_true rfl)⟩ ⟨Nat.le_refl _, Nat.le_refl _⟩ rfl rfl (Nat.le_of_ble_eq_true rfl) dX4_want_28) hD hS hA (fun r4 N5 D6 X7 PM8 PL9 H locs hP hD hS h => ?_)
      exact rt_Wi hx hb hr hlk dX4_want_31 (N5, D6, X7, PM8, PL9) hP hD hS h
  · have h := h.2 ct
    refine lv_aload_n hx hb dX4_want_8 rfl (lv_at hl 0 rfl) ?_
    refine lv_bipush (v := (-2)) hx hb dX4_want_9 (by decide) ?_
    refine wi_allP (rn_V (rest := []) (ci := 2) hx hb hml hown hT hl.1 hC hS hP hD 0 rfl rfl rfl ck_X4_55 (c_X4_refuseBad l G cs ts q H.size N D X PM PL (-2) _ h) ⟨rfl, rfl, (Nat.le_of_ble_eq_true rfl), (Nat.le_of_ble_eq_true rfl)⟩ ⟨Nat.le_refl _, Nat.le_refl _⟩ rfl rfl (Nat.le_of_ble_eq_true rfl) dX4_want_11) hD hS hA (fun r10 N11 D12 X13 PM14 PL15 H locs hP hD hS h => ?_)
    exact rt_Wi hx hb hr hlk dX4_want_14 (N11, D12, X13, PM14, PL15) hP hD hS h
abbrev rm_X4_firstCovering : Room := { frames := 1, cells := 0, slots := 0, locals := 20 }
set_option maxRecDepth 100000 in
set_option maxHeartbeats 4000000 in
theorem c_X4_firstCovering (l : Launch) (G : va_G) (cs ts : Nat → Nat) (q : Nat → Nat → Nat) (sz : Nat)  (N : ZI) (D : ZI) (X : ZI) (PM : ZI) (PL : ZL)   (x1 : Int64) (post : Int32 → ZI → ZI → ZI → ZI → ZL → Prop) (h : w_X4_firstCovering N D X PM PL x1 post) : Met l yX4_firstCovering [.code yX4_firstCovering cX4_firstCovering 4 (some .int)] rm_X4_firstCovering (va_Pc [.ref (q 0 99), .long x1] (CP G cs ts (pW q cs N D X PM PL) sz)) (va_Qi (fun (r : Int32) (u : ZI × ZI × ZI × ZI × ZL) => post r u.1 u.2.1 u.2.2.1 u.2.2.2.1 u.2.2.2.2) (CB G (va_A (pW q cs N D X PM PL) sz) (fun u => (pW q cs u.1 u.2.1 u.2.2.1 u.2.2.2.1 u.2.2.2.2))) (va_A (pW q cs N D X PM PL) sz)) 0 0 (va_A (pW q cs N D X PM PL) sz) := by
  refine ax_W (Qc := fun A => va_Qi (fun (r : Int32) (u : ZI × ZI × ZI × ZI × ZL) => post r u.1 u.2.1 u.2.2.1 u.2.2.2.1 u.2.2.2.2) (CB G A (fun u => (pW q cs u.1 u.2.1 u.2.2.1 u.2.2.2.1 u.2.2.2.2))) A) (by decide) (Nat.le_of_ble_eq_true rfl) sz ?_
  intro p e s m args below meth c A hx hb hr hlk hml hown hT hC hnm H locs hP hD hS ls hl
  have hK := hC.2.1
  have hA := hC.2.2
  have hl : lv_has ls 4 [(0, .ref (q 0 99)), (1, .long x1)] := hl
  unfold w_X4_firstCovering at h
  have HL2 : ∀ (Nf : ZI) (Df : ZI) (Xf : ZI) (PMf : ZI) (PLf : ZL) (z1 : Int64) (K : Int32 → Prop), (∀  (y3 : Int32), K y3 → ∀ (H : Heap) (locs : List Loc), va_P G vwCl (pW q cs Nf Df Xf PMf PLf) H → va_D A (pW q cs Nf Df Xf PMf PLf) → va_S A s.heap H locs → ∀ ls : Array Slot, lv_has ls 4 [(0, .ref (q 0 99)), (1, .long z1), (3, .int y3)] → W p l e rm_X4_firstCovering s m args below meth c H locs 0 0 (MQ below (va_Qi (fun (r : Int32) (u : ZI × ZI × ZI × ZI × ZL) => post r u.1 u.2.1 u.2.2.1 u.2.2.2.1 u.2.2.2.2) (CB G A (fun u => (pW q cs u.1 u.2.1 u.2.2.1 u.2.2.2.1 u.2.2.2.2))) A) args s 0 0 A) (F0 m 37 ls [])) → ∀ (n : Nat)  (y3 : Int32), itF (w_X4_firstCovering_L2 Nf Df Xf PMf PLf z1 post K) (fun _ => False) n y3 → ∀ (H : Heap) (locs : List Loc), va_P G vwCl (pW q cs Nf Df Xf PMf PLf) H → va_D A (pW q cs Nf Df Xf PMf PLf) → va_S A s.heap H locs → ∀ ls : Array Slot, lv_has ls 4 [(0, .ref (q 0 99)), (1, .long z1), (3, .int y3)] → W p l e rm_X4_firstCovering s m args below meth c H locs 0 0 (MQ below (va_Qi (fun (r : Int32) (u : ZI × ZI × ZI × ZI × ZL) => post r u.1 u.2.1 u.2.2.1 u.2.2.2.1 u.2.2.2.2) (CB G A (fun u => (pW q cs u.1 u.2.1 u.2.2.1 u.2.2.2.1 u.2.2.2.2))) A) args s 0 0 A) (F0 m 2 ls []) := by
    intro Nf Df Xf PMf PLf z1 K hKK n
    induction n with
    | zero =>
      intro y3 h
      exact absurd h id
    | succ n ih =>
      intro y3 h H locs hP hD hS ls hl
      have h : w_X4_firstCovering_L2 Nf Df Xf PMf PLf z1 post K (itF (w_X4_firstCovering_L2 Nf Df Xf PMf PLf z1 post K) (fun _ => False) n) y3 := h
      generalize itF (w_X4_firstCovering_L2 Nf Df Xf PMf PLf z1 post K) (fun _ => False) n = rec at h ih
      unfold w_X4_firstCovering_L2 at h
      refine lv_iload_n hx hb dX4_firstCovering_2 rfl (lv_at hl 2 rfl) ?_
      refine lv_sipush (v := 256) hx hb dX4_firstCovering_3 (by decide) ?_
      refine lv_icmp_ge (tgt := 37) hx hb dX4_firstCovering_6 (by decide) (fun ct => ?_) (fun ct => ?_)
      · have h := h.1 ct
        exact hKK _ h _ _ hP hD hS ls (lv_sub hl [0, 1, 2] rfl)
      · have h := h.2 ct
        refine lv_lload_n hx hb dX4_firstCovering_9 rfl (lv_at hl 1 rfl) ?_
        refine lv_aload_n hx hb dX4_firstCovering_10 rfl (lv_at hl 0 rfl) ?_
        refine gf_X4_30 hx hb hT hown hK hP 0 rfl rfl dX4_firstCovering_11 ?_
        refine lv_iload_n hx hb dX4_firstCovering_14 rfl (lv_at hl 2 rfl) ?_
        obtain ⟨hi, h⟩ := h
        refine va_lald hx hb hK hP 20 2 rfl rfl hi dX4_firstCovering_15 ?_
        refine ki_X4_219 hx hb hT hown dX4_firstCovering_16 ?_
        refine lv_lxor hx hb dX4_firstCovering_19 ?_
        refine lv_land hx hb dX4_firstCovering_20 ?_
        refine lv_lconst (v := 0) hx hb dX4_firstCovering_21 (by decide) ?_
        refine W.lcmp hx hb dX4_firstCovering_22 ?_
        refine lv_if_ne (tgt := 31) hx hb dX4_firstCovering_23 (by decide) (fun ct => ?_) (fun ct => ?_)
        · have h := h.1 ct
          refine lv_iinc (v := y3 + 1) (lv' := [(3, .int (y3 + 1)), (0, .ref (q 0 99)), (1, .long z1)]) hx hb dX4_firstCovering_31 hl (k := 2) rfl rfl (by decide) rfl (fun ls hl => ?_)
          refine lv_goto (tgt := 2) hx hb dX4_firstCovering_34 (by decide) ?_
          exact ih _ h _ _ hP hD hS ls (lv_sub hl [1, 2, 0] rfl)
        · have h := h.2 ct
          refine lv_iload_n hx hb dX4_firstCovering_26 rfl (lv_at hl 2 rfl) ?_
          refine cl_Si (rn_S (rest := []) hx hb hml hown hT hl.1 ck_X4_163 (c_X4_placingNumber l y3 _ h) ⟨rfl, rfl, (Nat.le_of_ble_eq_true rfl), (Nat.le_of_ble_eq_true rfl)⟩ ⟨Nat.zero_le _, Nat.zero_le _⟩ rfl rfl (Nat.le_of_ble_eq_true rfl) dX4_firstCovering_27) (fun r1 h => ?_)
          exact rt_Wi hx hb hr hlk dX4_firstCovering_30 (Nf, Df, Xf, PMf, PLf) hP hD hS h
  refine lv_iconst (v := 0) hx hb dX4_firstCovering_0 (by decide) ?_
  refine lv_istore_n (lv' := [(3, .int 0), (0, .ref (q 0 99)), (1, .long x1)]) hx hb dX4_firstCovering_1 rfl hl (by decide) rfl (fun ls hl => ?_)
  obtain ⟨n3, h⟩ := h
  refine HL2 _ _ _ _ _ _ _ (fun v2 h H locs hP hD hS ls hl => ?_) n3 _ h _ _ hP hD hS ls (lv_sub hl [1, 2, 0] rfl)
  refine lv_iconst (v := (-1)) hx hb dX4_firstCovering_37 (by decide) ?_
  exact rt_Wi hx hb hr hlk dX4_firstCovering_38 (N, D, X, PM, PL) hP hD hS h
abbrev rm_X4_firstOfTwoCovering : Room := { frames := 2, cells := 0, slots := 0, locals := 43 }
set_option maxRecDepth 100000 in
set_option maxHeartbeats 4000000 in
theorem c_X4_firstOfTwoCovering (l : Launch) (G : va_G) (cs ts : Nat → Nat) (q : Nat → Nat → Nat) (sz : Nat)  (N : ZI) (D : ZI) (X : ZI) (PM : ZI) (PL : ZL)   (x1 : Int64) (post : Int32 → ZI → ZI → ZI → ZI → ZL → Prop) (h : w_X4_firstOfTwoCovering N D X PM PL x1 post) : Met l yX4_firstOfTwoCovering [.code yX4_firstOfTwoCovering cX4_firstOfTwoCovering 4 (some .int)] rm_X4_firstOfTwoCovering (va_Pc [.ref (q 0 99), .long x1] (CP G cs ts (pW q cs N D X PM PL) sz)) (va_Qi (fun (r : Int32) (u : ZI × ZI × ZI × ZI × ZL) => post r u.1 u.2.1 u.2.2.1 u.2.2.2.1 u.2.2.2.2) (CB G (va_A (pW q cs N D X PM PL) sz) (fun u => (pW q cs u.1 u.2.1 u.2.2.1 u.2.2.2.1 u.2.2.2.2))) (va_A (pW q cs N D X PM PL) sz)) 0 0 (va_A (pW q cs N D X PM PL) sz) := by
  refine ax_W (Qc := fun A => va_Qi (fun (r : Int32) (u : ZI × ZI × ZI × ZI × ZL) => post r u.1 u.2.1 u.2.2.1 u.2.2.2.1 u.2.2.2.2) (CB G A (fun u => (pW q cs u.1 u.2.1 u.2.2.1 u.2.2.2.1 u.2.2.2.2))) A) (by decide) (Nat.le_of_ble_eq_true rfl) sz ?_
  intro p e s m args below meth c A hx hb hr hlk hml hown hT hC hnm H locs hP hD hS ls hl
  have hK := hC.2.1
  have hA := hC.2.2
  have hl : lv_has ls 4 [(0, .ref (q 0 99)), (1, .long x1)] := hl
  unfold w_X4_firstOfTwoCovering at h
  have HL2 : ∀  (z1 : Int64) (K : ZI → ZI → ZI → ZI → ZL → Int32 → Prop), (∀ (Nv : ZI) (Dv : ZI) (Xv : ZI) (PMv : ZI) (PLv : ZL) (y3 : Int32), K Nv Dv Xv PMv PLv y3 → ∀ (H : Heap) (locs : List Loc), va_P G vwCl (pW q cs Nv Dv Xv PMv PLv) H → va_D A (pW q cs Nv Dv Xv PMv PLv) → va_S A s.heap H locs → ∀ ls : Array Slot, lv_has ls 4 [(0, .ref (q 0 99)), (1, .long z1), (3, .int y3)] → W p l e rm_X4_firstOfTwoCovering s m args below meth c H locs 0 0 (MQ below (va_Qi (fun (r : Int32) (u : ZI × ZI × ZI × ZI × ZL) => post r u.1 u.2.1 u.2.2.1 u.2.2.2.1 u.2.2.2.2) (CB G A (fun u => (pW q cs u.1 u.2.1 u.2.2.1 u.2.2.2.1 u.2.2.2.2))) A) args s 0 0 A) (F0 m 53 ls [])) → ∀ (n : Nat) (Nv : ZI) (Dv : ZI) (Xv : ZI) (PMv : ZI) (PLv : ZL) (y3 : Int32), itF (w_X4_firstOfTwoCovering_L2 z1 post K) (fun _ _ _ _ _ _ => False) n Nv Dv Xv PMv PLv y3 → ∀ (H : Heap) (locs : List Loc), va_P G vwCl (pW q cs Nv Dv Xv PMv PLv) H → va_D A (pW q cs Nv Dv Xv PMv PLv) → va_S A s.heap H locs → ∀ ls : Array Slot, lv_has ls 4 [(0, .ref (q 0 99)), (1, .long z1), (3, .int y3)] → W p l e rm_X4_firstOfTwoCovering s m args below meth c H locs 0 0 (MQ below (va_Qi (fun (r : Int32) (u : ZI × ZI × ZI × ZI × ZL) => post r u.1 u.2.1 u.2.2.1 u.2.2.2.1 u.2.2.2.2) (CB G A (fun u => (pW q cs u.1 u.2.1 u.2.2.1 u.2.2.2.1 u.2.2.2.2))) A) args s 0 0 A) (F0 m 2 ls []) := by
    intro z1 K hKK n
    induction n with
    | zero =>
      intro Nv Dv Xv PMv PLv y3 h
      exact absurd h id
    | succ n ih =>
      intro Nv Dv Xv PMv PLv y3 h H locs hP hD hS ls hl
      have h : w_X4_firstOfTwoCovering_L2 z1 post K (itF (w_X4_firstOfTwoCovering_L2 z1 post K) (fun _ _ _ _ _ _ => False) n) Nv Dv Xv PMv PLv y3 := h
      generalize itF (w_X4_firstOfTwoCovering_L2 z1 post K) (fun _ _ _ _ _ _ => False) n = rec at h ih
      unfold w_X4_firstOfTwoCovering_L2 at h
      refine lv_iload_n hx hb dX4_firstOfTwoCovering_2 rfl (lv_at hl 2 rfl) ?_
      refine lv_sipush (v := 256) hx hb dX4_firstOfTwoCovering_3 (by decide) ?_
      refine lv_icmp_ge (tgt := 53) hx hb dX4_firstOfTwoCovering_6 (by decide) (fun ct => ?_) (fun ct => ?_)
      · have h := h.1 ct
        exact hKK _ _ _ _ _ _ h _ _ hP hD hS ls (lv_sub hl [0, 1, 2] rfl)
      · have h := h.2 ct
        refine lv_lload_n hx hb dX4_firstOfTwoCovering_9 rfl (lv_at hl 1 rfl) ?_
        refine lv_aload_n hx hb dX4_firstOfTwoCovering_10 rfl (lv_at hl 0 rfl) ?_
        refine gf_X4_30 hx hb hT hown hK hP 0 rfl rfl dX4_firstOfTwoCovering_11 ?_
        refine lv_iload_n hx hb dX4_firstOfTwoCovering_14 rfl (lv_at hl 2 rfl) ?_
        obtain ⟨hi, h⟩ := h
        refine va_lald hx hb hK hP 20 2 rfl rfl hi dX4_firstOfTwoCovering_15 ?_
        refine lv_land hx hb dX4_firstOfTwoCovering_16 ?_
        refine lv_lconst (v := 0) hx hb dX4_firstOfTwoCovering_17 (by decide) ?_
        refine W.lcmp hx hb dX4_firstOfTwoCovering_18 ?_
        refine lv_if_eq (tgt := 47) hx hb dX4_firstOfTwoCovering_19 (by decide) (fun ct => ?_) (fun ct => ?_)
        · have h := h.1 ct
          refine lv_iinc (v := y3 + 1) (lv' := [(3, .int (y3 + 1)), (0, .ref (q 0 99)), (1, .long z1)]) hx hb dX4_firstOfTwoCovering_47 hl (k := 2) rfl rfl (by decide) rfl (fun ls hl => ?_)
          refine lv_goto (tgt := 2) hx hb dX4_firstOfTwoCovering_50 (by decide) ?_
          exact ih _ _ _ _ _ _ h _ _ hP hD hS ls (lv_sub hl [1, 2, 0] rfl)
        · have h := h.2 ct
          refine lv_aload_n hx hb dX4_firstOfTwoCovering_22 rfl (lv_at hl 0 rfl) ?_
          refine lv_lload_n hx hb dX4_firstOfTwoCovering_23 rfl (lv_at hl 1 rfl) ?_
          refine lv_aload_n hx hb dX4_firstOfTwoCovering_24 rfl (lv_at hl 0 rfl) ?_
          refine gf_X4_30 hx hb hT hown hK hP 0 rfl rfl dX4_firstOfTwoCovering_25 ?_
          refine lv_iload_n hx hb dX4_firstOfTwoCovering_28 rfl (lv_at hl 2 rfl) ?_
          obtain ⟨hi, h⟩ := h
          refine va_lald hx hb hK hP 20 2 rfl rfl hi dX4_firstOfTwoCovering_29 ?_
          refine ki_X4_219 hx hb hT hown dX4_firstOfTwoCovering_30 ?_
          refine lv_lxor hx hb dX4_firstOfTwoCovering_33 ?_
          refine lv_land hx hb dX4_firstOfTwoCovering_34 ?_
          refine wi_allP (rn_V (rest := []) (ci := 2) hx hb hml hown hT hl.1 hC hS hP hD 0 rfl rfl rfl ck_X4_175 (c_X4_firstCovering l G cs ts q H.size Nv Dv Xv PMv PLv (z1 &&& ((PLv 4 y3.toNatClampNeg) ^^^ (-1))) _ h) ⟨rfl, rfl, (Nat.le_of_ble_eq_true rfl), (Nat.le_of_ble_eq_true rfl)⟩ ⟨Nat.le_refl _, Nat.le_refl _⟩ rfl rfl (Nat.le_of_ble_eq_true rfl) dX4_firstOfTwoCovering_35) hD hS hA (fun r1 N2 D3 X4 PM5 PL6 H locs hP hD hS h => ?_)
          refine lv_iconst (v := (-1)) hx hb dX4_firstOfTwoCovering_38 (by decide) ?_
          refine lv_icmp_eq (tgt := 47) hx hb dX4_firstOfTwoCovering_39 (by decide) (fun ct => ?_) (fun ct => ?_)
          · have h := h.1 ct
            refine lv_iinc (v := y3 + 1) (lv' := [(3, .int (y3 + 1)), (0, .ref (q 0 99)), (1, .long z1)]) hx hb dX4_firstOfTwoCovering_47 hl (k := 2) rfl rfl (by decide) rfl (fun ls hl => ?_)
            refine lv_goto (tgt := 2) hx hb dX4_firstOfTwoCovering_50 (by decide) ?_
            exact ih _ _ _ _ _ _ h _ _ hP hD hS ls (lv_sub hl [1, 2, 0] rfl)
          · have h := h.2 ct
            refine lv_iload_n hx hb dX4_firstOfTwoCovering_42 rfl (lv_at hl 2 rfl) ?_
            refine cl_Si (rn_S (rest := []) hx hb hml hown hT hl.1 ck_X4_163 (c_X4_placingNumber l y3 _ h) ⟨rfl, rfl, (Nat.le_of_ble_eq_true rfl), (Nat.le_of_ble_eq_true rfl)⟩ ⟨Nat.zero_le _, Nat.zero_le _⟩ rfl rfl (Nat.le_of_ble_eq_true rfl) dX4_firstOfTwoCovering_43) (fun r7 h => ?_)
            exact rt_Wi hx hb hr hlk dX4_firstOfTwoCovering_46 (N2, D3, X4, PM5, PL6) hP hD hS h
  refine lv_iconst (v := 0) hx hb dX4_firstOfTwoCovering_0 (by decide) ?_
  refine lv_istore_n (lv' := [(3, .int 0), (0, .ref (q 0 99)), (1, .long x1)]) hx hb dX4_firstOfTwoCovering_1 rfl hl (by decide) rfl (fun ls hl => ?_)
  obtain ⟨n14, h⟩ := h
  refine HL2 _ _ (fun N8 D9 X10 PM11 PL12 v13 h H locs hP hD hS ls hl => ?_) n14 _ _ _ _ _ _ h _ _ hP hD hS ls (lv_sub hl [1, 2, 0] rfl)
  refine lv_iconst (v := (-1)) hx hb dX4_firstOfTwoCovering_53 (by decide) ?_
  exact rt_Wi hx hb hr hlk dX4_firstOfTwoCovering_54 (N8, D9, X10, PM11, PL12) hP hD hS h
abbrev rm_X4_cover : Room := { frames := 4, cells := 0, slots := 0, locals := 90 }
set_option maxRecDepth 100000 in
set_option maxHeartbeats 4000000 in
theorem c_X4_cover (l : Launch) (G : va_G) (cs ts : Nat → Nat) (q : Nat → Nat → Nat) (sz : Nat)  (N : ZI) (D : ZI) (X : ZI) (PM : ZI) (PL : ZL)   (x1 : Int32) (x2 : Int32) (post : Int32 → ZI → ZI → ZI → ZI → ZL → Prop) (h : w_X4_cover N D X PM PL x1 x2 post) : Met l yX4_cover [.code yX4_cover cX4_cover 7 (some .int)] rm_X4_cover (va_Pc [.ref (q 0 99), .int x1, .int x2] (CP G cs ts (pW q cs N D X PM PL) sz)) (va_Qi (fun (r : Int32) (u : ZI × ZI × ZI × ZI × ZL) => post r u.1 u.2.1 u.2.2.1 u.2.2.2.1 u.2.2.2.2) (CB G (va_A (pW q cs N D X PM PL) sz) (fun u => (pW q cs u.1 u.2.1 u.2.2.1 u.2.2.2.1 u.2.2.2.2))) (va_A (pW q cs N D X PM PL) sz)) 0 0 (va_A (pW q cs N D X PM PL) sz) := by
  refine ax_W (Qc := fun A => va_Qi (fun (r : Int32) (u : ZI × ZI × ZI × ZI × ZL) => post r u.1 u.2.1 u.2.2.1 u.2.2.2.1 u.2.2.2.2) (CB G A (fun u => (pW q cs u.1 u.2.1 u.2.2.1 u.2.2.2.1 u.2.2.2.2))) A) (by decide) (Nat.le_of_ble_eq_true rfl) sz ?_
  intro p e s m args below meth c A hx hb hr hlk hml hown hT hC hnm H locs hP hD hS ls hl
  have hK := hC.2.1
  have hA := hC.2.2
  have hl : lv_has ls 7 [(0, .ref (q 0 99)), (1, .int x1), (2, .int x2)] := hl
  unfold w_X4_cover at h
  refine lv_iload_n hx hb dX4_cover_0 rfl (lv_at hl 1 rfl) ?_
  refine lv_iconst (v := 0) hx hb dX4_cover_1 (by decide) ?_
  refine lv_iconst (v := 1) hx hb dX4_cover_2 (by decide) ?_
  refine cl_Si (rn_S (rest := []) hx hb hml hown hT hl.1 ck_X4_51 (c_X4_within l x1 0 1 _ h) ⟨rfl, rfl, (Nat.le_of_ble_eq_true rfl), (Nat.le_of_ble_eq_true rfl)⟩ ⟨Nat.zero_le _, Nat.zero_le _⟩ rfl rfl (Nat.le_of_ble_eq_true rfl) dX4_cover_3) (fun r1 h => ?_)
  refine lv_if_eq (tgt := 18) hx hb dX4_cover_6 (by decide) (fun ct => ?_) (fun ct => ?_)
  · have h := h.1 ct
    refine lv_aload_n hx hb dX4_cover_18 rfl (lv_at hl 0 rfl) ?_
    refine lv_bipush (v := (-10)) hx hb dX4_cover_19 (by decide) ?_
    refine wi_allP (rn_V (rest := []) (ci := 2) hx hb hml hown hT hl.1 hC hS hP hD 0 rfl rfl rfl ck_X4_55 (c_X4_refuseBad l G cs ts q H.size N D X PM PL (-10) _ h) ⟨rfl, rfl, (Nat.le_of_ble_eq_true rfl), (Nat.le_of_ble_eq_true rfl)⟩ ⟨Nat.le_refl _, Nat.le_refl _⟩ rfl rfl (Nat.le_of_ble_eq_true rfl) dX4_cover_21) hD hS hA (fun r2 N3 D4 X5 PM6 PL7 H locs hP hD hS h => ?_)
    exact rt_Wi hx hb hr hlk dX4_cover_24 (N3, D4, X5, PM6, PL7) hP hD hS h
  · have h := h.2 ct
    refine lv_iload_n hx hb dX4_cover_9 rfl (lv_at hl 2 rfl) ?_
    refine lv_iconst (v := 0) hx hb dX4_cover_10 (by decide) ?_
    refine lv_iconst (v := 1) hx hb dX4_cover_11 (by decide) ?_
    refine cl_Si (rn_S (rest := []) hx hb hml hown hT hl.1 ck_X4_51 (c_X4_within l x2 0 1 _ h) ⟨rfl, rfl, (Nat.le_of_ble_eq_true rfl), (Nat.le_of_ble_eq_true rfl)⟩ ⟨Nat.zero_le _, Nat.zero_le _⟩ rfl rfl (Nat.le_of_ble_eq_true rfl) dX4_cover_12) (fun r8 h => ?_)
    refine lv_if_ne (tgt := 25) hx hb dX4_cover_15 (by decide) (fun ct => ?_) (fun ct => ?_)
    · have h := h.1 ct
      refine lv_aload_n hx hb dX4_cover_25 rfl (lv_at hl 0 rfl) ?_
      refine gf_X4_10 hx hb hT hown hK hP 0 rfl rfl dX4_cover_26 ?_
      refine wl_part (wr := List.filterMap (fun i : Nat => (pW q cs N D X PM PL)[i]?) [0, 9, 10, 11, 12, 13, 14, 15, 16, 17, 18, 19, 20]) (w2 := fun u => (pW q cs u D X PM PL)) [1, 2, 3, 4, 5, 6, 7, 8] [0, 9, 10, 11, 12, 13, 14, 15, 16, 17, 18, 19, 20] [0, 13, 14, 15, 16, 17, 18, 19, 20, 1, 2, 3, 4, 5, 6, 7, 8, 9, 10, 11, 12] (rn_VN (rest := []) (ci := 0) (wc := (tbW (q 1) cs N)) hx hb hml hown hT hl.1 hC hS (hP.sub [1, 2, 3, 4, 5, 6, 7, 8] rfl) (hD.sub [1, 2, 3, 4, 5, 6, 7, 8] (by decide) rfl) 0 rfl rfl rfl ck_X4_172 (c_X2_wantedCells l G cs ts (q 1) H.size N  _ h) ⟨rfl, rfl, (Nat.le_of_ble_eq_true rfl), (Nat.le_of_ble_eq_true rfl)⟩ ⟨Nat.le_refl _, Nat.le_refl _⟩ rfl rfl (Nat.le_of_ble_eq_true rfl) dX4_cover_29) hP hD hS hA rfl rfl rfl (by decide) rfl (fun _ => rfl) (fun r9 N10 H locs hP hD hS h => ?_)
      refine lv_lstore_n (lv' := [(3, .long r9), (0, .ref (q 0 99)), (1, .int x1), (2, .int x2)]) hx hb dX4_cover_32 rfl hl (by decide) rfl (fun ls hl => ?_)
      refine lv_lload_n hx hb dX4_cover_33 rfl (lv_at hl 0 rfl) ?_
      refine lv_lconst (v := 0) hx hb dX4_cover_34 (by decide) ?_
      refine W.lcmp hx hb dX4_cover_35 ?_
      refine lv_if_ne (tgt := 49) hx hb dX4_cover_36 (by decide) (fun ct => ?_) (fun ct => ?_)
      · have h := h.1 ct
        refine lv_aload_n hx hb dX4_cover_49 rfl (lv_at hl 1 rfl) ?_
        refine lv_aload_n hx hb dX4_cover_50 rfl (lv_at hl 1 rfl) ?_
        refine gf_X4_10 hx hb hT hown hK hP 0 rfl rfl dX4_cover_51 ?_
        refine gf_X4_74 hx hb hT hown hK hP 1 rfl rfl dX4_cover_54 ?_
        refine lv_iload_n hx hb dX4_cover_57 rfl (lv_at hl 2 rfl) ?_
        obtain ⟨hi, h⟩ := h
        refine va_iald hx hb hK hP 2 0 rfl rfl hi dX4_cover_58 ?_
        refine wv_allP (rn_V (rest := []) (ci := 2) hx hb hml hown hT hl.1 hC hS hP hD 0 rfl rfl rfl ck_X4_156 (c_X4_placeEverywhere l G cs ts q H.size N10 D X PM PL (N10 0 x1.toNatClampNeg) _ h) ⟨rfl, rfl, (Nat.le_of_ble_eq_true rfl), (Nat.le_of_ble_eq_true rfl)⟩ ⟨Nat.le_refl _, Nat.le_refl _⟩ rfl rfl (Nat.le_of_ble_eq_true rfl) dX4_cover_59) hD hS hA (fun N11 D12 X13 PM14 PL15 H locs hP hD hS h => ?_)
        refine lv_aload_n hx hb dX4_cover_62 rfl (lv_at hl 1 rfl) ?_
        refine lv_lload_n hx hb dX4_cover_63 rfl (lv_at hl 0 rfl) ?_
        refine wi_allP (rn_V (rest := []) (ci := 2) hx hb hml hown hT hl.1 hC hS hP hD 0 rfl rfl rfl ck_X4_175 (c_X4_firstCovering l G cs ts q H.size N11 D12 X13 PM14 PL15 r9 _ h) ⟨rfl, rfl, (Nat.le_of_ble_eq_true rfl), (Nat.le_of_ble_eq_true rfl)⟩ ⟨Nat.le_refl _, Nat.le_refl _⟩ rfl rfl (Nat.le_of_ble_eq_true rfl) dX4_cover_64) hD hS hA (fun r16 N17 D18 X19 PM20 PL21 H locs hP hD hS h => ?_)
        refine lv_istore (lv' := [(5, .int r16), (3, .long r9), (0, .ref (q 0 99)), (1, .int x1), (2, .int x2)]) hx hb dX4_cover_67 hl (by decide) rfl (fun ls hl => ?_)
        refine lv_iload hx hb dX4_cover_69 (lv_at hl 0 rfl) ?_
        refine lv_iconst (v := (-1)) hx hb dX4_cover_71 (by decide) ?_
        refine lv_icmp_eq (tgt := 86) hx hb dX4_cover_72 (by decide) (fun ct => ?_) (fun ct => ?_)
        · have h := h.1 ct
          refine lv_aload_n hx hb dX4_cover_86 rfl (lv_at hl 2 rfl) ?_
          refine lv_lload_n hx hb dX4_cover_87 rfl (lv_at hl 1 rfl) ?_
          refine wi_allP (rn_V (rest := []) (ci := 2) hx hb hml hown hT hl.1 hC hS hP hD 0 rfl rfl rfl ck_X4_178 (c_X4_firstOfTwoCovering l G cs ts q H.size N17 D18 X19 PM20 PL21 r9 _ h) ⟨rfl, rfl, (Nat.le_of_ble_eq_true rfl), (Nat.le_of_ble_eq_true rfl)⟩ ⟨Nat.le_refl _, Nat.le_refl _⟩ rfl rfl (Nat.le_of_ble_eq_true rfl) dX4_cover_88) hD hS hA (fun r22 N23 D24 X25 PM26 PL27 H locs hP hD hS h => ?_)
          refine lv_istore (lv' := [(6, .int r22), (5, .int r16), (3, .long r9), (0, .ref (q 0 99)), (1, .int x1), (2, .int x2)]) hx hb dX4_cover_91 hl (by decide) rfl (fun ls hl => ?_)
          refine lv_iload_n hx hb dX4_cover_93 rfl (lv_at hl 5 rfl) ?_
          refine lv_if_ne (tgt := 107) hx hb dX4_cover_94 (by decide) (fun ct => ?_) (fun ct => ?_)
          · have h := h.1 ct
            refine lv_iload hx hb dX4_cover_107 (lv_at hl 0 rfl) ?_
            exact rt_Wi hx hb hr hlk dX4_cover_109 (N23, D24, X25, PM26, PL27) hP hD hS h
          · have h := h.2 ct
            refine lv_iload hx hb dX4_cover_97 (lv_at hl 0 rfl) ?_
            refine lv_iconst (v := (-1)) hx hb dX4_cover_99 (by decide) ?_
            refine lv_icmp_eq (tgt := 107) hx hb dX4_cover_100 (by decide) (fun ct => ?_) (fun ct => ?_)
            · have h := h.1 ct
              refine lv_iload hx hb dX4_cover_107 (lv_at hl 0 rfl) ?_
              exact rt_Wi hx hb hr hlk dX4_cover_109 (N23, D24, X25, PM26, PL27) hP hD hS h
            · have h := h.2 ct
              refine lv_iconst (v := 2) hx hb dX4_cover_103 (by decide) ?_
              refine lv_goto (tgt := 109) hx hb dX4_cover_104 (by decide) ?_
              exact rt_Wi hx hb hr hlk dX4_cover_109 (N23, D24, X25, PM26, PL27) hP hD hS h
        · have h := h.2 ct
          refine lv_iload_n hx hb dX4_cover_75 rfl (lv_at hl 4 rfl) ?_
          refine lv_if_ne (tgt := 83) hx hb dX4_cover_76 (by decide) (fun ct => ?_) (fun ct => ?_)
          · have h := h.1 ct
            refine lv_iload hx hb dX4_cover_83 (lv_at hl 0 rfl) ?_
            exact rt_Wi hx hb hr hlk dX4_cover_85 (N17, D18, X19, PM20, PL21) hP hD hS h
          · have h := h.2 ct
            refine lv_iconst (v := 1) hx hb dX4_cover_79 (by decide) ?_
            refine lv_goto (tgt := 85) hx hb dX4_cover_80 (by decide) ?_
            exact rt_Wi hx hb hr hlk dX4_cover_85 (N17, D18, X19, PM20, PL21) hP hD hS h
      · have h := h.2 ct
        refine lv_iload_n hx hb dX4_cover_39 rfl (lv_at hl 3 rfl) ?_
        refine lv_if_ne (tgt := 47) hx hb dX4_cover_40 (by decide) (fun ct => ?_) (fun ct => ?_)
        · have h := h.1 ct
          refine lv_iconst (v := (-1)) hx hb dX4_cover_47 (by decide) ?_
          exact rt_Wi hx hb hr hlk dX4_cover_48 (N10, D, X, PM, PL) hP hD hS h
        · have h := h.2 ct
          refine lv_iconst (v := 0) hx hb dX4_cover_43 (by decide) ?_
          refine lv_goto (tgt := 48) hx hb dX4_cover_44 (by decide) ?_
          exact rt_Wi hx hb hr hlk dX4_cover_48 (N10, D, X, PM, PL) hP hD hS h
    · have h := h.2 ct
      refine lv_aload_n hx hb dX4_cover_18 rfl (lv_at hl 0 rfl) ?_
      refine lv_bipush (v := (-10)) hx hb dX4_cover_19 (by decide) ?_
      refine wi_allP (rn_V (rest := []) (ci := 2) hx hb hml hown hT hl.1 hC hS hP hD 0 rfl rfl rfl ck_X4_55 (c_X4_refuseBad l G cs ts q H.size N D X PM PL (-10) _ h) ⟨rfl, rfl, (Nat.le_of_ble_eq_true rfl), (Nat.le_of_ble_eq_true rfl)⟩ ⟨Nat.le_refl _, Nat.le_refl _⟩ rfl rfl (Nat.le_of_ble_eq_true rfl) dX4_cover_21) hD hS hA (fun r28 N29 D30 X31 PM32 PL33 H locs hP hD hS h => ?_)
      exact rt_Wi hx hb hr hlk dX4_cover_24 (N29, D30, X31, PM32, PL33) hP hD hS h
abbrev rm_X4_shrinks : Room := { frames := 3, cells := 0, slots := 0, locals := 68 }
set_option maxRecDepth 100000 in
set_option maxHeartbeats 4000000 in
theorem c_X4_shrinks (l : Launch) (G : va_G) (cs ts : Nat → Nat) (q : Nat → Nat → Nat) (sz : Nat)  (N : ZI) (D : ZI) (X : ZI) (PM : ZI) (PL : ZL)   (x1 : Int32) (x2 : Int32) (post : Int32 → ZI → ZI → ZI → ZI → ZL → Prop) (h : w_X4_shrinks N D X PM PL x1 x2 post) : Met l yX4_shrinks [.code yX4_shrinks cX4_shrinks 5 (some .int)] rm_X4_shrinks (va_Pc [.ref (q 0 99), .int x1, .int x2] (CP G cs ts (pW q cs N D X PM PL) sz)) (va_Qi (fun (r : Int32) (u : ZI × ZI × ZI × ZI × ZL) => post r u.1 u.2.1 u.2.2.1 u.2.2.2.1 u.2.2.2.2) (CB G (va_A (pW q cs N D X PM PL) sz) (fun u => (pW q cs u.1 u.2.1 u.2.2.1 u.2.2.2.1 u.2.2.2.2))) (va_A (pW q cs N D X PM PL) sz)) 0 0 (va_A (pW q cs N D X PM PL) sz) := by
  refine ax_W (Qc := fun A => va_Qi (fun (r : Int32) (u : ZI × ZI × ZI × ZI × ZL) => post r u.1 u.2.1 u.2.2.1 u.2.2.2.1 u.2.2.2.2) (CB G A (fun u => (pW q cs u.1 u.2.1 u.2.2.1 u.2.2.2.1 u.2.2.2.2))) A) (by decide) (Nat.le_of_ble_eq_true rfl) sz ?_
  intro p e s m args below meth c A hx hb hr hlk hml hown hT hC hnm H locs hP hD hS ls hl
  have hK := hC.2.1
  have hA := hC.2.2
  have hl : lv_has ls 5 [(0, .ref (q 0 99)), (1, .int x1), (2, .int x2)] := hl
  unfold w_X4_shrinks at h
  have HL38 : ∀ (Nf : ZI) (Df : ZI) (Xf : ZI) (PMf : ZI) (PLf : ZL) (z1 : Int32) (z2 : Int32) (K : Int32 → Int32 → Prop), (∀  (y3 : Int32) (y4 : Int32), K y3 y4 → ∀ (H : Heap) (locs : List Loc), va_P G vwCl (pW q cs Nf Df Xf PMf PLf) H → va_D A (pW q cs Nf Df Xf PMf PLf) → va_S A s.heap H locs → ∀ ls : Array Slot, lv_has ls 5 [(0, .ref (q 0 99)), (1, .int z1), (2, .int z2), (3, .int y3), (4, .int y4)] → W p l e rm_X4_shrinks s m args below meth c H locs 0 0 (MQ below (va_Qi (fun (r : Int32) (u : ZI × ZI × ZI × ZI × ZL) => post r u.1 u.2.1 u.2.2.1 u.2.2.2.1 u.2.2.2.2) (CB G A (fun u => (pW q cs u.1 u.2.1 u.2.2.1 u.2.2.2.1 u.2.2.2.2))) A) args s 0 0 A) (F0 m 55 ls [])) → ∀ (n : Nat)  (y3 : Int32) (y4 : Int32), itF (w_X4_shrinks_L38 Nf Df Xf PMf PLf z1 z2 post K) (fun _ _ => False) n y3 y4 → ∀ (H : Heap) (locs : List Loc), va_P G vwCl (pW q cs Nf Df Xf PMf PLf) H → va_D A (pW q cs Nf Df Xf PMf PLf) → va_S A s.heap H locs → ∀ ls : Array Slot, lv_has ls 5 [(0, .ref (q 0 99)), (1, .int z1), (2, .int z2), (3, .int y3), (4, .int y4)] → W p l e rm_X4_shrinks s m args below meth c H locs 0 0 (MQ below (va_Qi (fun (r : Int32) (u : ZI × ZI × ZI × ZI × ZL) => post r u.1 u.2.1 u.2.2.1 u.2.2.2.1 u.2.2.2.2) (CB G A (fun u => (pW q cs u.1 u.2.1 u.2.2.1 u.2.2.2.1 u.2.2.2.2))) A) args s 0 0 A) (F0 m 38 ls []) := by
    intro Nf Df Xf PMf PLf z1 z2 K hKK n
    induction n with
    | zero =>
      intro y3 y4 h
      exact absurd h id
    | succ n ih =>
      intro y3 y4 h H locs hP hD hS ls hl
      have h : w_X4_shrinks_L38 Nf Df Xf PMf PLf z1 z2 post K (itF (w_X4_shrinks_L38 Nf Df Xf PMf PLf z1 z2 post K) (fun _ _ => False) n) y3 y4 := h
      generalize itF (w_X4_shrinks_L38 Nf Df Xf PMf PLf z1 z2 post K) (fun _ _ => False) n = rec at h ih
      unfold w_X4_shrinks_L38 at h
      refine lv_iload hx hb dX4_shrinks_38 (lv_at hl 4 rfl) ?_
      refine lv_iload_n hx hb dX4_shrinks_40 rfl (lv_at hl 2 rfl) ?_
      refine lv_icmp_ge (tgt := 55) hx hb dX4_shrinks_41 (by decide) (fun ct => ?_) (fun ct => ?_)
      · have h := h.1 ct
        exact hKK _ _ h _ _ hP hD hS ls (lv_sub hl [0, 1, 2, 3, 4] rfl)
      · have h := h.2 ct
        refine lv_iload_n hx hb dX4_shrinks_44 rfl (lv_at hl 3 rfl) ?_
        refine cl_Si (rn_SN (rest := []) hx hb hml hown hT hl.1 ck_X4_181 (c_X1_shrunk l y3 _ h) ⟨rfl, rfl, (Nat.le_of_ble_eq_true rfl), (Nat.le_of_ble_eq_true rfl)⟩ ⟨Nat.zero_le _, Nat.zero_le _⟩ rfl rfl (Nat.le_of_ble_eq_true rfl) dX4_shrinks_45) (fun r10 h => ?_)
        refine lv_istore_n (lv' := [(3, .int r10), (0, .ref (q 0 99)), (1, .int z1), (2, .int z2), (4, .int y4)]) hx hb dX4_shrinks_48 rfl hl (by decide) rfl (fun ls hl => ?_)
        refine lv_iinc (v := y4 + 1) (lv' := [(4, .int (y4 + 1)), (3, .int r10), (0, .ref (q 0 99)), (1, .int z1), (2, .int z2)]) hx hb dX4_shrinks_49 hl (k := 4) rfl rfl (by decide) rfl (fun ls hl => ?_)
        refine lv_goto (tgt := 38) hx hb dX4_shrinks_52 (by decide) ?_
        exact ih _ _ h _ _ hP hD hS ls (lv_sub hl [2, 3, 4, 1, 0] rfl)
  refine lv_iload_n hx hb dX4_shrinks_0 rfl (lv_at hl 1 rfl) ?_
  refine lv_iconst (v := 0) hx hb dX4_shrinks_1 (by decide) ?_
  refine lv_iconst (v := 1) hx hb dX4_shrinks_2 (by decide) ?_
  refine cl_Si (rn_S (rest := []) hx hb hml hown hT hl.1 ck_X4_51 (c_X4_within l x1 0 1 _ h) ⟨rfl, rfl, (Nat.le_of_ble_eq_true rfl), (Nat.le_of_ble_eq_true rfl)⟩ ⟨Nat.zero_le _, Nat.zero_le _⟩ rfl rfl (Nat.le_of_ble_eq_true rfl) dX4_shrinks_3) (fun r1 h => ?_)
  refine lv_if_eq (tgt := 18) hx hb dX4_shrinks_6 (by decide) (fun ct => ?_) (fun ct => ?_)
  · have h := h.1 ct
    refine lv_aload_n hx hb dX4_shrinks_18 rfl (lv_at hl 0 rfl) ?_
    refine lv_bipush (v := (-2)) hx hb dX4_shrinks_19 (by decide) ?_
    refine wi_allP (rn_V (rest := []) (ci := 2) hx hb hml hown hT hl.1 hC hS hP hD 0 rfl rfl rfl ck_X4_55 (c_X4_refuseBad l G cs ts q H.size N D X PM PL (-2) _ h) ⟨rfl, rfl, (Nat.le_of_ble_eq_true rfl), (Nat.le_of_ble_eq_true rfl)⟩ ⟨Nat.le_refl _, Nat.le_refl _⟩ rfl rfl (Nat.le_of_ble_eq_true rfl) dX4_shrinks_21) hD hS hA (fun r2 N3 D4 X5 PM6 PL7 H locs hP hD hS h => ?_)
    exact rt_Wi hx hb hr hlk dX4_shrinks_24 (N3, D4, X5, PM6, PL7) hP hD hS h
  · have h := h.2 ct
    refine lv_iload_n hx hb dX4_shrinks_9 rfl (lv_at hl 2 rfl) ?_
    refine lv_iconst (v := 0) hx hb dX4_shrinks_10 (by decide) ?_
    refine lv_iconst (v := 4) hx hb dX4_shrinks_11 (by decide) ?_
    refine cl_Si (rn_S (rest := []) hx hb hml hown hT hl.1 ck_X4_51 (c_X4_within l x2 0 4 _ h) ⟨rfl, rfl, (Nat.le_of_ble_eq_true rfl), (Nat.le_of_ble_eq_true rfl)⟩ ⟨Nat.zero_le _, Nat.zero_le _⟩ rfl rfl (Nat.le_of_ble_eq_true rfl) dX4_shrinks_12) (fun r8 h => ?_)
    refine lv_if_ne (tgt := 25) hx hb dX4_shrinks_15 (by decide) (fun ct => ?_) (fun ct => ?_)
    · have h := h.1 ct
      refine lv_aload_n hx hb dX4_shrinks_25 rfl (lv_at hl 0 rfl) ?_
      refine gf_X4_10 hx hb hT hown hK hP 0 rfl rfl dX4_shrinks_26 ?_
      refine gf_X4_74 hx hb hT hown hK hP 1 rfl rfl dX4_shrinks_29 ?_
      refine lv_iload_n hx hb dX4_shrinks_32 rfl (lv_at hl 1 rfl) ?_
      obtain ⟨hi, h⟩ := h
      refine va_iald hx hb hK hP 2 0 rfl rfl hi dX4_shrinks_33 ?_
      refine lv_topi (fun v9 ev9 => ?_)
      have h := h v9 ev9
      refine lv_istore_n (lv' := [(3, .int v9), (0, .ref (q 0 99)), (1, .int x1), (2, .int x2)]) hx hb dX4_shrinks_34 rfl hl (by decide) rfl (fun ls hl => ?_)
      refine lv_iconst (v := 0) hx hb dX4_shrinks_35 (by decide) ?_
      refine lv_istore (lv' := [(4, .int 0), (3, .int v9), (0, .ref (q 0 99)), (1, .int x1), (2, .int x2)]) hx hb dX4_shrinks_36 hl (by decide) rfl (fun ls hl => ?_)
      obtain ⟨n13, h⟩ := h
      refine HL38 _ _ _ _ _ _ _ _ (fun v11 v12 h H locs hP hD hS ls hl => ?_) n13 _ _ h _ _ hP hD hS ls (lv_sub hl [2, 3, 4, 1, 0] rfl)
      refine lv_iload_n hx hb dX4_shrinks_55 rfl (lv_at hl 3 rfl) ?_
      exact rt_Wi hx hb hr hlk dX4_shrinks_56 (N, D, X, PM, PL) hP hD hS h
    · have h := h.2 ct
      refine lv_aload_n hx hb dX4_shrinks_18 rfl (lv_at hl 0 rfl) ?_
      refine lv_bipush (v := (-2)) hx hb dX4_shrinks_19 (by decide) ?_
      refine wi_allP (rn_V (rest := []) (ci := 2) hx hb hml hown hT hl.1 hC hS hP hD 0 rfl rfl rfl ck_X4_55 (c_X4_refuseBad l G cs ts q H.size N D X PM PL (-2) _ h) ⟨rfl, rfl, (Nat.le_of_ble_eq_true rfl), (Nat.le_of_ble_eq_true rfl)⟩ ⟨Nat.le_refl _, Nat.le_refl _⟩ rfl rfl (Nat.le_of_ble_eq_true rfl) dX4_shrinks_21) hD hS hA (fun r14 N15 D16 X17 PM18 PL19 H locs hP hD hS h => ?_)
      exact rt_Wi hx hb hr hlk dX4_shrinks_24 (N15, D16, X17, PM18, PL19) hP hD hS h
abbrev rm_X4_gone : Room := { frames := 3, cells := 0, slots := 0, locals := 68 }
set_option maxRecDepth 100000 in
set_option maxHeartbeats 4000000 in
theorem c_X4_gone (l : Launch) (G : va_G) (cs ts : Nat → Nat) (q : Nat → Nat → Nat) (sz : Nat)  (N : ZI) (D : ZI) (X : ZI) (PM : ZI) (PL : ZL)   (x1 : Int32) (post : Int32 → ZI → ZI → ZI → ZI → ZL → Prop) (h : w_X4_gone N D X PM PL x1 post) : Met l yX4_gone [.code yX4_gone cX4_gone 4 (some .int)] rm_X4_gone (va_Pc [.ref (q 0 99), .int x1] (CP G cs ts (pW q cs N D X PM PL) sz)) (va_Qi (fun (r : Int32) (u : ZI × ZI × ZI × ZI × ZL) => post r u.1 u.2.1 u.2.2.1 u.2.2.2.1 u.2.2.2.2) (CB G (va_A (pW q cs N D X PM PL) sz) (fun u => (pW q cs u.1 u.2.1 u.2.2.1 u.2.2.2.1 u.2.2.2.2))) (va_A (pW q cs N D X PM PL) sz)) 0 0 (va_A (pW q cs N D X PM PL) sz) := by
  refine ax_W (Qc := fun A => va_Qi (fun (r : Int32) (u : ZI × ZI × ZI × ZI × ZL) => post r u.1 u.2.1 u.2.2.1 u.2.2.2.1 u.2.2.2.2) (CB G A (fun u => (pW q cs u.1 u.2.1 u.2.2.1 u.2.2.2.1 u.2.2.2.2))) A) (by decide) (Nat.le_of_ble_eq_true rfl) sz ?_
  intro p e s m args below meth c A hx hb hr hlk hml hown hT hC hnm H locs hP hD hS ls hl
  have hK := hC.2.1
  have hA := hC.2.2
  have hl : lv_has ls 4 [(0, .ref (q 0 99)), (1, .int x1)] := hl
  unfold w_X4_gone at h
  have HL28 : ∀ (Nf : ZI) (Df : ZI) (Xf : ZI) (PMf : ZI) (PLf : ZL) (z1 : Int32) (K : Int32 → Int32 → Prop), (∀  (y2 : Int32) (y3 : Int32), K y2 y3 → ∀ (H : Heap) (locs : List Loc), va_P G vwCl (pW q cs Nf Df Xf PMf PLf) H → va_D A (pW q cs Nf Df Xf PMf PLf) → va_S A s.heap H locs → ∀ ls : Array Slot, lv_has ls 4 [(0, .ref (q 0 99)), (1, .int z1), (2, .int y2), (3, .int y3)] → W p l e rm_X4_gone s m args below meth c H locs 0 0 (MQ below (va_Qi (fun (r : Int32) (u : ZI × ZI × ZI × ZI × ZL) => post r u.1 u.2.1 u.2.2.1 u.2.2.2.1 u.2.2.2.2) (CB G A (fun u => (pW q cs u.1 u.2.1 u.2.2.1 u.2.2.2.1 u.2.2.2.2))) A) args s 0 0 A) (F0 m 48 ls [])) → ∀ (n : Nat)  (y2 : Int32) (y3 : Int32), itF (w_X4_gone_L28 Nf Df Xf PMf PLf z1 post K) (fun _ _ => False) n y2 y3 → ∀ (H : Heap) (locs : List Loc), va_P G vwCl (pW q cs Nf Df Xf PMf PLf) H → va_D A (pW q cs Nf Df Xf PMf PLf) → va_S A s.heap H locs → ∀ ls : Array Slot, lv_has ls 4 [(0, .ref (q 0 99)), (1, .int z1), (2, .int y2), (3, .int y3)] → W p l e rm_X4_gone s m args below meth c H locs 0 0 (MQ below (va_Qi (fun (r : Int32) (u : ZI × ZI × ZI × ZI × ZL) => post r u.1 u.2.1 u.2.2.1 u.2.2.2.1 u.2.2.2.2) (CB G A (fun u => (pW q cs u.1 u.2.1 u.2.2.1 u.2.2.2.1 u.2.2.2.2))) A) args s 0 0 A) (F0 m 28 ls []) := by
    intro Nf Df Xf PMf PLf z1 K hKK n
    induction n with
    | zero =>
      intro y2 y3 h
      exact absurd h id
    | succ n ih =>
      intro y2 y3 h H locs hP hD hS ls hl
      have h : w_X4_gone_L28 Nf Df Xf PMf PLf z1 post K (itF (w_X4_gone_L28 Nf Df Xf PMf PLf z1 post K) (fun _ _ => False) n) y2 y3 := h
      generalize itF (w_X4_gone_L28 Nf Df Xf PMf PLf z1 post K) (fun _ _ => False) n = rec at h ih
      unfold w_X4_gone_L28 at h
      refine lv_iload_n hx hb dX4_gone_28 rfl (lv_at hl 2 rfl) ?_
      refine lv_if_eq (tgt := 48) hx hb dX4_gone_29 (by decide) (fun ct => ?_) (fun ct => ?_)
      · have h := h.1 ct
        exact hKK _ _ h _ _ hP hD hS ls (lv_sub hl [0, 1, 2, 3] rfl)
      · have h := h.2 ct
        refine lv_iload_n hx hb dX4_gone_32 rfl (lv_at hl 3 rfl) ?_
        refine lv_iconst (v := 4) hx hb dX4_gone_33 (by decide) ?_
        refine lv_icmp_ge (tgt := 48) hx hb dX4_gone_34 (by decide) (fun ct => ?_) (fun ct => ?_)
        · have h := h.1 ct
          exact hKK _ _ h _ _ hP hD hS ls (lv_sub hl [0, 1, 2, 3] rfl)
        · have h := h.2 ct
          refine lv_iload_n hx hb dX4_gone_37 rfl (lv_at hl 2 rfl) ?_
          refine cl_Si (rn_SN (rest := []) hx hb hml hown hT hl.1 ck_X4_181 (c_X1_shrunk l y2 _ h) ⟨rfl, rfl, (Nat.le_of_ble_eq_true rfl), (Nat.le_of_ble_eq_true rfl)⟩ ⟨Nat.zero_le _, Nat.zero_le _⟩ rfl rfl (Nat.le_of_ble_eq_true rfl) dX4_gone_38) (fun r3 h => ?_)
          refine lv_istore_n (lv' := [(2, .int r3), (0, .ref (q 0 99)), (1, .int z1), (3, .int y3)]) hx hb dX4_gone_41 rfl hl (by decide) rfl (fun ls hl => ?_)
          refine lv_iinc (v := y3 + 1) (lv' := [(3, .int (y3 + 1)), (2, .int r3), (0, .ref (q 0 99)), (1, .int z1)]) hx hb dX4_gone_42 hl (k := 3) rfl rfl (by decide) rfl (fun ls hl => ?_)
          refine lv_goto (tgt := 28) hx hb dX4_gone_45 (by decide) ?_
          exact ih _ _ h _ _ hP hD hS ls (lv_sub hl [2, 3, 1, 0] rfl)
  refine lv_iload_n hx hb dX4_gone_0 rfl (lv_at hl 1 rfl) ?_
  refine lv_iconst (v := 0) hx hb dX4_gone_1 (by decide) ?_
  refine lv_iconst (v := 1) hx hb dX4_gone_2 (by decide) ?_
  refine cl_Si (rn_S (rest := []) hx hb hml hown hT hl.1 ck_X4_51 (c_X4_within l x1 0 1 _ h) ⟨rfl, rfl, (Nat.le_of_ble_eq_true rfl), (Nat.le_of_ble_eq_true rfl)⟩ ⟨Nat.zero_le _, Nat.zero_le _⟩ rfl rfl (Nat.le_of_ble_eq_true rfl) dX4_gone_3) (fun r1 h => ?_)
  refine lv_if_ne (tgt := 16) hx hb dX4_gone_6 (by decide) (fun ct => ?_) (fun ct => ?_)
  · have h := h.1 ct
    refine lv_aload_n hx hb dX4_gone_16 rfl (lv_at hl 0 rfl) ?_
    refine gf_X4_10 hx hb hT hown hK hP 0 rfl rfl dX4_gone_17 ?_
    refine gf_X4_74 hx hb hT hown hK hP 1 rfl rfl dX4_gone_20 ?_
    refine lv_iload_n hx hb dX4_gone_23 rfl (lv_at hl 1 rfl) ?_
    obtain ⟨hi, h⟩ := h
    refine va_iald hx hb hK hP 2 0 rfl rfl hi dX4_gone_24 ?_
    refine lv_topi (fun v2 ev2 => ?_)
    have h := h v2 ev2
    refine lv_istore_n (lv' := [(2, .int v2), (0, .ref (q 0 99)), (1, .int x1)]) hx hb dX4_gone_25 rfl hl (by decide) rfl (fun ls hl => ?_)
    refine lv_iconst (v := 0) hx hb dX4_gone_26 (by decide) ?_
    refine lv_istore_n (lv' := [(3, .int 0), (2, .int v2), (0, .ref (q 0 99)), (1, .int x1)]) hx hb dX4_gone_27 rfl hl (by decide) rfl (fun ls hl => ?_)
    obtain ⟨n6, h⟩ := h
    refine HL28 _ _ _ _ _ _ _ (fun v4 v5 h H locs hP hD hS ls hl => ?_) n6 _ _ h _ _ hP hD hS ls (lv_sub hl [2, 3, 1, 0] rfl)
    refine lv_iload_n hx hb dX4_gone_48 rfl (lv_at hl 3 rfl) ?_
    exact rt_Wi hx hb hr hlk dX4_gone_49 (N, D, X, PM, PL) hP hD hS h
  · have h := h.2 ct
    refine lv_aload_n hx hb dX4_gone_9 rfl (lv_at hl 0 rfl) ?_
    refine lv_bipush (v := (-2)) hx hb dX4_gone_10 (by decide) ?_
    refine wi_allP (rn_V (rest := []) (ci := 2) hx hb hml hown hT hl.1 hC hS hP hD 0 rfl rfl rfl ck_X4_55 (c_X4_refuseBad l G cs ts q H.size N D X PM PL (-2) _ h) ⟨rfl, rfl, (Nat.le_of_ble_eq_true rfl), (Nat.le_of_ble_eq_true rfl)⟩ ⟨Nat.le_refl _, Nat.le_refl _⟩ rfl rfl (Nat.le_of_ble_eq_true rfl) dX4_gone_12) hD hS hA (fun r7 N8 D9 X10 PM11 PL12 H locs hP hD hS h => ?_)
    exact rt_Wi hx hb hr hlk dX4_gone_15 (N8, D9, X10, PM11, PL12) hP hD hS h
abbrev rm_X4_seen : Room := { frames := 2, cells := 0, slots := 0, locals := 43 }
set_option maxRecDepth 100000 in
set_option maxHeartbeats 4000000 in
theorem c_X4_seen (l : Launch) (G : va_G) (cs ts : Nat → Nat) (q : Nat → Nat → Nat) (sz : Nat)  (N : ZI) (D : ZI) (X : ZI) (PM : ZI) (PL : ZL)   (x1 : Int32) (x2 : Int32) (x3 : Int32) (post : Int32 → ZI → ZI → ZI → ZI → ZL → Prop) (h : w_X4_seen N D X PM PL x1 x2 x3 post) : Met l yX4_seen [.code yX4_seen cX4_seen 4 (some .int)] rm_X4_seen (va_Pc [.ref (q 0 99), .int x1, .int x2, .int x3] (CP G cs ts (pW q cs N D X PM PL) sz)) (va_Qi (fun (r : Int32) (u : ZI × ZI × ZI × ZI × ZL) => post r u.1 u.2.1 u.2.2.1 u.2.2.2.1 u.2.2.2.2) (CB G (va_A (pW q cs N D X PM PL) sz) (fun u => (pW q cs u.1 u.2.1 u.2.2.1 u.2.2.2.1 u.2.2.2.2))) (va_A (pW q cs N D X PM PL) sz)) 0 0 (va_A (pW q cs N D X PM PL) sz) := by
  refine ax_W (Qc := fun A => va_Qi (fun (r : Int32) (u : ZI × ZI × ZI × ZI × ZL) => post r u.1 u.2.1 u.2.2.1 u.2.2.2.1 u.2.2.2.2) (CB G A (fun u => (pW q cs u.1 u.2.1 u.2.2.1 u.2.2.2.1 u.2.2.2.2))) A) (by decide) (Nat.le_of_ble_eq_true rfl) sz ?_
  intro p e s m args below meth c A hx hb hr hlk hml hown hT hC hnm H locs hP hD hS ls hl
  have hK := hC.2.1
  have hA := hC.2.2
  have hl : lv_has ls 4 [(0, .ref (q 0 99)), (1, .int x1), (2, .int x2), (3, .int x3)] := hl
  unfold w_X4_seen at h
  refine lv_iload_n hx hb dX4_seen_0 rfl (lv_at hl 1 rfl) ?_
  refine lv_iload_n hx hb dX4_seen_1 rfl (lv_at hl 2 rfl) ?_
  refine cl_Si (rn_S (rest := []) hx hb hml hown hT hl.1 ck_X4_119 (c_X4_isPlace l x1 x2 _ h) ⟨rfl, rfl, (Nat.le_of_ble_eq_true rfl), (Nat.le_of_ble_eq_true rfl)⟩ ⟨Nat.zero_le _, Nat.zero_le _⟩ rfl rfl (Nat.le_of_ble_eq_true rfl) dX4_seen_2) (fun r1 h => ?_)
  refine lv_if_eq (tgt := 17) hx hb dX4_seen_5 (by decide) (fun ct => ?_) (fun ct => ?_)
  · have h := h.1 ct
    refine lv_aload_n hx hb dX4_seen_17 rfl (lv_at hl 0 rfl) ?_
    refine lv_bipush (v := (-2)) hx hb dX4_seen_18 (by decide) ?_
    refine wi_allP (rn_V (rest := []) (ci := 2) hx hb hml hown hT hl.1 hC hS hP hD 0 rfl rfl rfl ck_X4_55 (c_X4_refuseBad l G cs ts q H.size N D X PM PL (-2) _ h) ⟨rfl, rfl, (Nat.le_of_ble_eq_true rfl), (Nat.le_of_ble_eq_true rfl)⟩ ⟨Nat.le_refl _, Nat.le_refl _⟩ rfl rfl (Nat.le_of_ble_eq_true rfl) dX4_seen_20) hD hS hA (fun r2 N3 D4 X5 PM6 PL7 H locs hP hD hS h => ?_)
    exact rt_Wi hx hb hr hlk dX4_seen_23 (N3, D4, X5, PM6, PL7) hP hD hS h
  · have h := h.2 ct
    refine lv_iload_n hx hb dX4_seen_8 rfl (lv_at hl 3 rfl) ?_
    refine lv_iconst (v := 0) hx hb dX4_seen_9 (by decide) ?_
    refine lv_iconst (v := 1) hx hb dX4_seen_10 (by decide) ?_
    refine cl_Si (rn_S (rest := []) hx hb hml hown hT hl.1 ck_X4_51 (c_X4_within l x3 0 1 _ h) ⟨rfl, rfl, (Nat.le_of_ble_eq_true rfl), (Nat.le_of_ble_eq_true rfl)⟩ ⟨Nat.zero_le _, Nat.zero_le _⟩ rfl rfl (Nat.le_of_ble_eq_true rfl) dX4_seen_11) (fun r8 h => ?_)
    refine lv_if_ne (tgt := 24) hx hb dX4_seen_14 (by decide) (fun ct => ?_) (fun ct => ?_)
    · have h := h.1 ct
      refine lv_aload_n hx hb dX4_seen_24 rfl (lv_at hl 0 rfl) ?_
      refine gf_X4_10 hx hb hT hown hK hP 0 rfl rfl dX4_seen_25 ?_
      refine gf_X4_184 hx hb hT hown hK hP 1 rfl rfl dX4_seen_28 ?_
      refine lv_bipush (v := 8) hx hb dX4_seen_31 (by decide) ?_
      refine lv_icmp_lt (tgt := 41) hx hb dX4_seen_33 (by decide) (fun ct => ?_) (fun ct => ?_)
      · have h := h.1 ct
        refine lv_aload_n hx hb dX4_seen_41 rfl (lv_at hl 0 rfl) ?_
        refine gf_X4_10 hx hb hT hown hK hP 0 rfl rfl dX4_seen_42 ?_
        refine gf_X4_187 hx hb hT hown hK hP 1 rfl rfl dX4_seen_45 ?_
        refine lv_aload_n hx hb dX4_seen_48 rfl (lv_at hl 0 rfl) ?_
        refine gf_X4_10 hx hb hT hown hK hP 0 rfl rfl dX4_seen_49 ?_
        refine gf_X4_184 hx hb hT hown hK hP 1 rfl rfl dX4_seen_52 ?_
        refine lv_bipush (v := 8) hx hb dX4_seen_55 (by decide) ?_
        refine lv_iload_n hx hb dX4_seen_57 rfl (lv_at hl 2 rfl) ?_
        refine lv_imul hx hb dX4_seen_58 ?_
        refine lv_iload_n hx hb dX4_seen_59 rfl (lv_at hl 1 rfl) ?_
        refine lv_iadd hx hb dX4_seen_60 ?_
        obtain ⟨hi, h⟩ := h
        refine va_iast hx hb hK hP hD hS 5 0 rfl rfl hi dX4_seen_61 (fun H locs hP hD hS => ?_)
        obtain ⟨N9, eN9⟩ : ∃ z : ZI, z = mu N 5 (N 7 0).toNatClampNeg ((8 * x2) + x1) := ⟨_, rfl⟩
        have h := h N9 eN9
        have hP : va_P G vwCl (pW q cs N9 D X PM PL) H := by rw [eN9]; exact hP
        have hD : va_D A (pW q cs N9 D X PM PL) := by rw [eN9]; exact hD
        refine lv_aload_n hx hb dX4_seen_62 rfl (lv_at hl 0 rfl) ?_
        refine gf_X4_10 hx hb hT hown hK hP 0 rfl rfl dX4_seen_63 ?_
        refine gf_X4_190 hx hb hT hown hK hP 1 rfl rfl dX4_seen_66 ?_
        refine lv_aload_n hx hb dX4_seen_69 rfl (lv_at hl 0 rfl) ?_
        refine gf_X4_10 hx hb hT hown hK hP 0 rfl rfl dX4_seen_70 ?_
        refine gf_X4_184 hx hb hT hown hK hP 1 rfl rfl dX4_seen_73 ?_
        refine lv_iload_n hx hb dX4_seen_76 rfl (lv_at hl 3 rfl) ?_
        obtain ⟨hi, h⟩ := h
        refine va_iast hx hb hK hP hD hS 6 0 rfl rfl hi dX4_seen_77 (fun H locs hP hD hS => ?_)
        obtain ⟨N10, eN10⟩ : ∃ z : ZI, z = mu N9 6 (N9 7 0).toNatClampNeg x3 := ⟨_, rfl⟩
        have h := h N10 eN10
        have hP : va_P G vwCl (pW q cs N10 D X PM PL) H := by rw [eN10]; exact hP
        have hD : va_D A (pW q cs N10 D X PM PL) := by rw [eN10]; exact hD
        refine lv_aload_n hx hb dX4_seen_78 rfl (lv_at hl 0 rfl) ?_
        refine gf_X4_10 hx hb hT hown hK hP 0 rfl rfl dX4_seen_79 ?_
        refine lv_dup hx hb dX4_seen_82 rfl ?_
        refine gf_X4_184 hx hb hT hown hK hP 1 rfl rfl dX4_seen_83 ?_
        refine lv_iconst (v := 1) hx hb dX4_seen_86 (by decide) ?_
        refine lv_iadd hx hb dX4_seen_87 ?_
        refine pf_X4_184 hx hb hT hown hK hP hD hS 1 rfl (Nat.le_of_ble_eq_true rfl) dX4_seen_88 (fun H locs hP hD hS => ?_)
        obtain ⟨N11, eN11⟩ : ∃ z : ZI, z = mu N10 7 0 ((N10 7 0) + 1) := ⟨_, rfl⟩
        have h := h N11 eN11
        have hP : va_P G vwCl (pW q cs N11 D X PM PL) H := by rw [eN11]; exact hP
        have hD : va_D A (pW q cs N11 D X PM PL) := by rw [eN11]; exact hD
        refine lv_aload_n hx hb dX4_seen_91 rfl (lv_at hl 0 rfl) ?_
        refine gf_X4_10 hx hb hT hown hK hP 0 rfl rfl dX4_seen_92 ?_
        refine gf_X4_184 hx hb hT hown hK hP 1 rfl rfl dX4_seen_95 ?_
        exact rt_Wi hx hb hr hlk dX4_seen_98 (N11, D, X, PM, PL) hP hD hS h
      · have h := h.2 ct
        refine lv_aload_n hx hb dX4_seen_36 rfl (lv_at hl 0 rfl) ?_
        refine wi_allP (rn_V (rest := []) (ci := 2) hx hb hml hown hT hl.1 hC hS hP hD 0 rfl rfl rfl ck_X4_105 (c_X4_refuseFull l G cs ts q H.size N D X PM PL  _ h) ⟨rfl, rfl, (Nat.le_of_ble_eq_true rfl), (Nat.le_of_ble_eq_true rfl)⟩ ⟨Nat.le_refl _, Nat.le_refl _⟩ rfl rfl (Nat.le_of_ble_eq_true rfl) dX4_seen_37) hD hS hA (fun r12 N13 D14 X15 PM16 PL17 H locs hP hD hS h => ?_)
        exact rt_Wi hx hb hr hlk dX4_seen_40 (N13, D14, X15, PM16, PL17) hP hD hS h
    · have h := h.2 ct
      refine lv_aload_n hx hb dX4_seen_17 rfl (lv_at hl 0 rfl) ?_
      refine lv_bipush (v := (-2)) hx hb dX4_seen_18 (by decide) ?_
      refine wi_allP (rn_V (rest := []) (ci := 2) hx hb hml hown hT hl.1 hC hS hP hD 0 rfl rfl rfl ck_X4_55 (c_X4_refuseBad l G cs ts q H.size N D X PM PL (-2) _ h) ⟨rfl, rfl, (Nat.le_of_ble_eq_true rfl), (Nat.le_of_ble_eq_true rfl)⟩ ⟨Nat.le_refl _, Nat.le_refl _⟩ rfl rfl (Nat.le_of_ble_eq_true rfl) dX4_seen_20) hD hS hA (fun r18 N19 D20 X21 PM22 PL23 H locs hP hD hS h => ?_)
      exact rt_Wi hx hb hr hlk dX4_seen_23 (N19, D20, X21, PM22, PL23) hP hD hS h
abbrev rm_X4_forget : Room := { frames := 1, cells := 0, slots := 0, locals := 22 }
set_option maxRecDepth 100000 in
set_option maxHeartbeats 4000000 in
theorem c_X4_forget (l : Launch) (G : va_G) (cs ts : Nat → Nat) (q : Nat → Nat → Nat) (sz : Nat)  (N : ZI) (D : ZI) (X : ZI) (PM : ZI) (PL : ZL)   (x1 : Int32) (post : Int32 → ZI → ZI → ZI → ZI → ZL → Prop) (h : w_X4_forget N D X PM PL x1 post) : Met l yX4_forget [.code yX4_forget cX4_forget 3 (some .int)] rm_X4_forget (va_Pc [.ref (q 0 99), .int x1] (CP G cs ts (pW q cs N D X PM PL) sz)) (va_Qi (fun (r : Int32) (u : ZI × ZI × ZI × ZI × ZL) => post r u.1 u.2.1 u.2.2.1 u.2.2.2.1 u.2.2.2.2) (CB G (va_A (pW q cs N D X PM PL) sz) (fun u => (pW q cs u.1 u.2.1 u.2.2.1 u.2.2.2.1 u.2.2.2.2))) (va_A (pW q cs N D X PM PL) sz)) 0 0 (va_A (pW q cs N D X PM PL) sz) := by
  refine ax_W (Qc := fun A => va_Qi (fun (r : Int32) (u : ZI × ZI × ZI × ZI × ZL) => post r u.1 u.2.1 u.2.2.1 u.2.2.2.1 u.2.2.2.2) (CB G A (fun u => (pW q cs u.1 u.2.1 u.2.2.1 u.2.2.2.1 u.2.2.2.2))) A) (by decide) (Nat.le_of_ble_eq_true rfl) sz ?_
  intro p e s m args below meth c A hx hb hr hlk hml hown hT hC hnm H locs hP hD hS ls hl
  have hK := hC.2.1
  have hA := hC.2.2
  have hl : lv_has ls 3 [(0, .ref (q 0 99)), (1, .int x1)] := hl
  unfold w_X4_forget at h
  refine lv_iload_n hx hb dX4_forget_0 rfl (lv_at hl 1 rfl) ?_
  refine lv_iconst (v := 0) hx hb dX4_forget_1 (by decide) ?_
  refine lv_iconst (v := 1) hx hb dX4_forget_2 (by decide) ?_
  refine cl_Si (rn_S (rest := []) hx hb hml hown hT hl.1 ck_X4_51 (c_X4_within l x1 0 1 _ h) ⟨rfl, rfl, (Nat.le_of_ble_eq_true rfl), (Nat.le_of_ble_eq_true rfl)⟩ ⟨Nat.zero_le _, Nat.zero_le _⟩ rfl rfl (Nat.le_of_ble_eq_true rfl) dX4_forget_3) (fun r1 h => ?_)
  refine lv_if_ne (tgt := 16) hx hb dX4_forget_6 (by decide) (fun ct => ?_) (fun ct => ?_)
  · have h := h.1 ct
    refine lv_iload_n hx hb dX4_forget_16 rfl (lv_at hl 1 rfl) ?_
    refine lv_if_ne (tgt := 39) hx hb dX4_forget_17 (by decide) (fun ct => ?_) (fun ct => ?_)
    · have h := h.1 ct
      refine lv_aload_n hx hb dX4_forget_39 rfl (lv_at hl 0 rfl) ?_
      refine gf_X4_10 hx hb hT hown hK hP 0 rfl rfl dX4_forget_40 ?_
      refine gf_X4_184 hx hb hT hown hK hP 1 rfl rfl dX4_forget_43 ?_
      refine lv_topi (fun v2 ev2 => ?_)
      have h := h v2 ev2
      refine lv_istore_n (lv' := [(2, .int v2), (0, .ref (q 0 99)), (1, .int x1)]) hx hb dX4_forget_46 rfl hl (by decide) rfl (fun ls hl => ?_)
      refine lv_aload_n hx hb dX4_forget_47 rfl (lv_at hl 1 rfl) ?_
      refine gf_X4_10 hx hb hT hown hK hP 0 rfl rfl dX4_forget_48 ?_
      refine lv_iconst (v := 0) hx hb dX4_forget_51 (by decide) ?_
      refine pf_X4_184 hx hb hT hown hK hP hD hS 1 rfl (Nat.le_of_ble_eq_true rfl) dX4_forget_52 (fun H locs hP hD hS => ?_)
      obtain ⟨N3, eN3⟩ : ∃ z : ZI, z = mu N 7 0 0 := ⟨_, rfl⟩
      have h := h N3 eN3
      have hP : va_P G vwCl (pW q cs N3 D X PM PL) H := by rw [eN3]; exact hP
      have hD : va_D A (pW q cs N3 D X PM PL) := by rw [eN3]; exact hD
      refine lv_iload_n hx hb dX4_forget_55 rfl (lv_at hl 0 rfl) ?_
      exact rt_Wi hx hb hr hlk dX4_forget_56 (N3, D, X, PM, PL) hP hD hS h
    · have h := h.2 ct
      refine lv_aload_n hx hb dX4_forget_20 rfl (lv_at hl 0 rfl) ?_
      refine gf_X4_10 hx hb hT hown hK hP 0 rfl rfl dX4_forget_21 ?_
      refine gf_X4_166 hx hb hT hown hK hP 1 rfl rfl dX4_forget_24 ?_
      refine lv_topi (fun v4 ev4 => ?_)
      have h := h v4 ev4
      refine lv_istore_n (lv' := [(2, .int v4), (0, .ref (q 0 99)), (1, .int x1)]) hx hb dX4_forget_27 rfl hl (by decide) rfl (fun ls hl => ?_)
      refine lv_aload_n hx hb dX4_forget_28 rfl (lv_at hl 1 rfl) ?_
      refine gf_X4_10 hx hb hT hown hK hP 0 rfl rfl dX4_forget_29 ?_
      refine lv_iconst (v := 0) hx hb dX4_forget_32 (by decide) ?_
      refine pf_X4_166 hx hb hT hown hK hP hD hS 1 rfl (Nat.le_of_ble_eq_true rfl) dX4_forget_33 (fun H locs hP hD hS => ?_)
      obtain ⟨N5, eN5⟩ : ∃ z : ZI, z = mu N 4 0 0 := ⟨_, rfl⟩
      have h := h N5 eN5
      have hP : va_P G vwCl (pW q cs N5 D X PM PL) H := by rw [eN5]; exact hP
      have hD : va_D A (pW q cs N5 D X PM PL) := by rw [eN5]; exact hD
      refine lv_goto (tgt := 55) hx hb dX4_forget_36 (by decide) ?_
      refine lv_iload_n hx hb dX4_forget_55 rfl (lv_at hl 0 rfl) ?_
      exact rt_Wi hx hb hr hlk dX4_forget_56 (N5, D, X, PM, PL) hP hD hS h
  · have h := h.2 ct
    refine lv_aload_n hx hb dX4_forget_9 rfl (lv_at hl 0 rfl) ?_
    refine lv_bipush (v := (-2)) hx hb dX4_forget_10 (by decide) ?_
    refine wi_allP (rn_V (rest := []) (ci := 2) hx hb hml hown hT hl.1 hC hS hP hD 0 rfl rfl rfl ck_X4_55 (c_X4_refuseBad l G cs ts q H.size N D X PM PL (-2) _ h) ⟨rfl, rfl, (Nat.le_of_ble_eq_true rfl), (Nat.le_of_ble_eq_true rfl)⟩ ⟨Nat.le_refl _, Nat.le_refl _⟩ rfl rfl (Nat.le_of_ble_eq_true rfl) dX4_forget_12) hD hS hA (fun r6 N7 D8 X9 PM10 PL11 H locs hP hD hS h => ?_)
    exact rt_Wi hx hb hr hlk dX4_forget_15 (N7, D8, X9, PM10, PL11) hP hD hS h
abbrev rm_X4_which : Room := { frames := 4, cells := 0, slots := 0, locals := 90 }
set_option maxRecDepth 100000 in
set_option maxHeartbeats 4000000 in
theorem c_X4_which (l : Launch) (G : va_G) (cs ts : Nat → Nat) (q : Nat → Nat → Nat) (sz : Nat)  (N : ZI) (D : ZI) (X : ZI) (PM : ZI) (PL : ZL)   (x1 : Int32) (x2 : Int32) (post : Int32 → ZI → ZI → ZI → ZI → ZL → Prop) (h : w_X4_which N D X PM PL x1 x2 post) : Met l yX4_which [.code yX4_which cX4_which 10 (some .int)] rm_X4_which (va_Pc [.ref (q 0 99), .int x1, .int x2] (CP G cs ts (pW q cs N D X PM PL) sz)) (va_Qi (fun (r : Int32) (u : ZI × ZI × ZI × ZI × ZL) => post r u.1 u.2.1 u.2.2.1 u.2.2.2.1 u.2.2.2.2) (CB G (va_A (pW q cs N D X PM PL) sz) (fun u => (pW q cs u.1 u.2.1 u.2.2.1 u.2.2.2.1 u.2.2.2.2))) (va_A (pW q cs N D X PM PL) sz)) 0 0 (va_A (pW q cs N D X PM PL) sz) := by
  refine ax_W (Qc := fun A => va_Qi (fun (r : Int32) (u : ZI × ZI × ZI × ZI × ZL) => post r u.1 u.2.1 u.2.2.1 u.2.2.2.1 u.2.2.2.2) (CB G A (fun u => (pW q cs u.1 u.2.1 u.2.2.1 u.2.2.2.1 u.2.2.2.2))) A) (by decide) (Nat.le_of_ble_eq_true rfl) sz ?_
  intro p e s m args below meth c A hx hb hr hlk hml hown hT hC hnm H locs hP hD hS ls hl
  have hK := hC.2.1
  have hA := hC.2.2
  have hl : lv_has ls 10 [(0, .ref (q 0 99)), (1, .int x1), (2, .int x2)] := hl
  unfold w_X4_which at h
  have HL66 : ∀ (Nf : ZI) (Df : ZI) (Xf : ZI) (PMf : ZI) (PLf : ZL) (z1 : Int32) (z2 : Int32) (z3 : Int64) (z5 : Int64) (K : Int32 → Int32 → Int32 → Prop), (∀  (y7 : Int32) (y8 : Int32) (y9 : Int32), K y7 y8 y9 → ∀ (H : Heap) (locs : List Loc), va_P G vwCl (pW q cs Nf Df Xf PMf PLf) H → va_D A (pW q cs Nf Df Xf PMf PLf) → va_S A s.heap H locs → ∀ ls : Array Slot, lv_has ls 10 [(0, .ref (q 0 99)), (1, .int z1), (2, .int z2), (3, .long z3), (5, .long z5), (7, .int y7), (8, .int y8), (9, .int y9)] → W p l e rm_X4_which s m args below meth c H locs 0 0 (MQ below (va_Qi (fun (r : Int32) (u : ZI × ZI × ZI × ZI × ZL) => post r u.1 u.2.1 u.2.2.1 u.2.2.2.1 u.2.2.2.2) (CB G A (fun u => (pW q cs u.1 u.2.1 u.2.2.1 u.2.2.2.1 u.2.2.2.2))) A) args s 0 0 A) (F0 m 111 ls [])) → ∀ (n : Nat)  (y7 : Int32) (y8 : Int32) (y9 : Int32), itF (w_X4_which_L66 Nf Df Xf PMf PLf z1 z2 z3 z5 post K) (fun _ _ _ => False) n y7 y8 y9 → ∀ (H : Heap) (locs : List Loc), va_P G vwCl (pW q cs Nf Df Xf PMf PLf) H → va_D A (pW q cs Nf Df Xf PMf PLf) → va_S A s.heap H locs → ∀ ls : Array Slot, lv_has ls 10 [(0, .ref (q 0 99)), (1, .int z1), (2, .int z2), (3, .long z3), (5, .long z5), (7, .int y7), (8, .int y8), (9, .int y9)] → W p l e rm_X4_which s m args below meth c H locs 0 0 (MQ below (va_Qi (fun (r : Int32) (u : ZI × ZI × ZI × ZI × ZL) => post r u.1 u.2.1 u.2.2.1 u.2.2.2.1 u.2.2.2.2) (CB G A (fun u => (pW q cs u.1 u.2.1 u.2.2.1 u.2.2.2.1 u.2.2.2.2))) A) args s 0 0 A) (F0 m 66 ls []) := by
    intro Nf Df Xf PMf PLf z1 z2 z3 z5 K hKK n
    induction n with
    | zero =>
      intro y7 y8 y9 h
      exact absurd h id
    | succ n ih =>
      intro y7 y8 y9 h H locs hP hD hS ls hl
      have h : w_X4_which_L66 Nf Df Xf PMf PLf z1 z2 z3 z5 post K (itF (w_X4_which_L66 Nf Df Xf PMf PLf z1 z2 z3 z5 post K) (fun _ _ _ => False) n) y7 y8 y9 := h
      generalize itF (w_X4_which_L66 Nf Df Xf PMf PLf z1 z2 z3 z5 post K) (fun _ _ _ => False) n = rec at h ih
      unfold w_X4_which_L66 at h
      refine lv_iload hx hb dX4_which_66 (lv_at hl 7 rfl) ?_
      refine lv_sipush (v := 256) hx hb dX4_which_68 (by decide) ?_
      refine lv_icmp_ge (tgt := 111) hx hb dX4_which_71 (by decide) (fun ct => ?_) (fun ct => ?_)
      · have h := h.1 ct
        exact hKK _ _ _ h _ _ hP hD hS ls (lv_sub hl [0, 1, 2, 3, 4, 5, 6, 7] rfl)
      · have h := h.2 ct
        refine lv_aload_n hx hb dX4_which_74 rfl (lv_at hl 0 rfl) ?_
        refine gf_X4_30 hx hb hT hown hK hP 0 rfl rfl dX4_which_75 ?_
        refine lv_iload hx hb dX4_which_78 (lv_at hl 7 rfl) ?_
        obtain ⟨hi, h⟩ := h
        refine va_lald hx hb hK hP 20 2 rfl rfl hi dX4_which_80 ?_
        refine lv_lload_n hx hb dX4_which_81 rfl (lv_at hl 3 rfl) ?_
        refine lv_lload hx hb dX4_which_82 (lv_at hl 4 rfl) ?_
        refine cl_Si (rn_S (rest := []) hx hb hml hown hT hl.1 ck_X4_197 (c_X4_fits l (PLf 4 y9.toNatClampNeg) z3 z5 _ h) ⟨rfl, rfl, (Nat.le_of_ble_eq_true rfl), (Nat.le_of_ble_eq_true rfl)⟩ ⟨Nat.zero_le _, Nat.zero_le _⟩ rfl rfl (Nat.le_of_ble_eq_true rfl) dX4_which_84) (fun r18 h => ?_)
        refine lv_if_eq (tgt := 105) hx hb dX4_which_87 (by decide) (fun ct => ?_) (fun ct => ?_)
        · have h := h.1 ct
          refine lv_iinc (v := y9 + 1) (lv' := [(9, .int (y9 + 1)), (0, .ref (q 0 99)), (1, .int z1), (2, .int z2), (3, .long z3), (5, .long z5), (7, .int y7), (8, .int y8)]) hx hb dX4_which_105 hl (k := 7) rfl rfl (by decide) rfl (fun ls hl => ?_)
          refine lv_goto (tgt := 66) hx hb dX4_which_108 (by decide) ?_
          exact ih _ _ _ h _ _ hP hD hS ls (lv_sub hl [1, 2, 3, 4, 5, 6, 7, 0] rfl)
        · have h := h.2 ct
          refine lv_iload hx hb dX4_which_90 (lv_at hl 5 rfl) ?_
          refine lv_if_ne (tgt := 102) hx hb dX4_which_92 (by decide) (fun ct => ?_) (fun ct => ?_)
          · have h := h.1 ct
            refine lv_iinc (v := y7 + 1) (lv' := [(7, .int (y7 + 1)), (0, .ref (q 0 99)), (1, .int z1), (2, .int z2), (3, .long z3), (5, .long z5), (8, .int y8), (9, .int y9)]) hx hb dX4_which_102 hl (k := 5) rfl rfl (by decide) rfl (fun ls hl => ?_)
            refine lv_iinc (v := y9 + 1) (lv' := [(9, .int (y9 + 1)), (7, .int (y7 + 1)), (0, .ref (q 0 99)), (1, .int z1), (2, .int z2), (3, .long z3), (5, .long z5), (8, .int y8)]) hx hb dX4_which_105 hl (k := 7) rfl rfl (by decide) rfl (fun ls hl => ?_)
            refine lv_goto (tgt := 66) hx hb dX4_which_108 (by decide) ?_
            exact ih _ _ _ h _ _ hP hD hS ls (lv_sub hl [2, 3, 4, 5, 6, 1, 7, 0] rfl)
          · have h := h.2 ct
            refine lv_iload hx hb dX4_which_95 (lv_at hl 7 rfl) ?_
            refine cl_Si (rn_S (rest := []) hx hb hml hown hT hl.1 ck_X4_163 (c_X4_placingNumber l y9 _ h) ⟨rfl, rfl, (Nat.le_of_ble_eq_true rfl), (Nat.le_of_ble_eq_true rfl)⟩ ⟨Nat.zero_le _, Nat.zero_le _⟩ rfl rfl (Nat.le_of_ble_eq_true rfl) dX4_which_97) (fun r19 h => ?_)
            refine lv_istore (lv' := [(8, .int r19), (0, .ref (q 0 99)), (1, .int z1), (2, .int z2), (3, .long z3), (5, .long z5), (7, .int y7), (9, .int y9)]) hx hb dX4_which_100 hl (by decide) rfl (fun ls hl => ?_)
            refine lv_iinc (v := y7 + 1) (lv' := [(7, .int (y7 + 1)), (8, .int r19), (0, .ref (q 0 99)), (1, .int z1), (2, .int z2), (3, .long z3), (5, .long z5), (9, .int y9)]) hx hb dX4_which_102 hl (k := 6) rfl rfl (by decide) rfl (fun ls hl => ?_)
            refine lv_iinc (v := y9 + 1) (lv' := [(9, .int (y9 + 1)), (7, .int (y7 + 1)), (8, .int r19), (0, .ref (q 0 99)), (1, .int z1), (2, .int z2), (3, .long z3), (5, .long z5)]) hx hb dX4_which_105 hl (k := 7) rfl rfl (by decide) rfl (fun ls hl => ?_)
            refine lv_goto (tgt := 66) hx hb dX4_which_108 (by decide) ?_
            exact ih _ _ _ h _ _ hP hD hS ls (lv_sub hl [3, 4, 5, 6, 7, 1, 2, 0] rfl)
  refine lv_iload_n hx hb dX4_which_0 rfl (lv_at hl 1 rfl) ?_
  refine lv_iconst (v := 0) hx hb dX4_which_1 (by decide) ?_
  refine lv_iconst (v := 1) hx hb dX4_which_2 (by decide) ?_
  refine cl_Si (rn_S (rest := []) hx hb hml hown hT hl.1 ck_X4_51 (c_X4_within l x1 0 1 _ h) ⟨rfl, rfl, (Nat.le_of_ble_eq_true rfl), (Nat.le_of_ble_eq_true rfl)⟩ ⟨Nat.zero_le _, Nat.zero_le _⟩ rfl rfl (Nat.le_of_ble_eq_true rfl) dX4_which_3) (fun r1 h => ?_)
  refine lv_if_eq (tgt := 18) hx hb dX4_which_6 (by decide) (fun ct => ?_) (fun ct => ?_)
  · have h := h.1 ct
    refine lv_aload_n hx hb dX4_which_18 rfl (lv_at hl 0 rfl) ?_
    refine lv_bipush (v := (-10)) hx hb dX4_which_19 (by decide) ?_
    refine wi_allP (rn_V (rest := []) (ci := 2) hx hb hml hown hT hl.1 hC hS hP hD 0 rfl rfl rfl ck_X4_55 (c_X4_refuseBad l G cs ts q H.size N D X PM PL (-10) _ h) ⟨rfl, rfl, (Nat.le_of_ble_eq_true rfl), (Nat.le_of_ble_eq_true rfl)⟩ ⟨Nat.le_refl _, Nat.le_refl _⟩ rfl rfl (Nat.le_of_ble_eq_true rfl) dX4_which_21) hD hS hA (fun r2 N3 D4 X5 PM6 PL7 H locs hP hD hS h => ?_)
    exact rt_Wi hx hb hr hlk dX4_which_24 (N3, D4, X5, PM6, PL7) hP hD hS h
  · have h := h.2 ct
    refine lv_iload_n hx hb dX4_which_9 rfl (lv_at hl 2 rfl) ?_
    refine lv_iconst (v := 0) hx hb dX4_which_10 (by decide) ?_
    refine lv_iconst (v := 1) hx hb dX4_which_11 (by decide) ?_
    refine cl_Si (rn_S (rest := []) hx hb hml hown hT hl.1 ck_X4_51 (c_X4_within l x2 0 1 _ h) ⟨rfl, rfl, (Nat.le_of_ble_eq_true rfl), (Nat.le_of_ble_eq_true rfl)⟩ ⟨Nat.zero_le _, Nat.zero_le _⟩ rfl rfl (Nat.le_of_ble_eq_true rfl) dX4_which_12) (fun r8 h => ?_)
    refine lv_if_ne (tgt := 25) hx hb dX4_which_15 (by decide) (fun ct => ?_) (fun ct => ?_)
    · have h := h.1 ct
      refine lv_aload_n hx hb dX4_which_25 rfl (lv_at hl 0 rfl) ?_
      refine lv_aload_n hx hb dX4_which_26 rfl (lv_at hl 0 rfl) ?_
      refine gf_X4_10 hx hb hT hown hK hP 0 rfl rfl dX4_which_27 ?_
      refine gf_X4_74 hx hb hT hown hK hP 1 rfl rfl dX4_which_30 ?_
      refine lv_iload_n hx hb dX4_which_33 rfl (lv_at hl 1 rfl) ?_
      obtain ⟨hi, h⟩ := h
      refine va_iald hx hb hK hP 2 0 rfl rfl hi dX4_which_34 ?_
      refine wv_allP (rn_V (rest := []) (ci := 2) hx hb hml hown hT hl.1 hC hS hP hD 0 rfl rfl rfl ck_X4_156 (c_X4_placeEverywhere l G cs ts q H.size N D X PM PL (N 0 x1.toNatClampNeg) _ h) ⟨rfl, rfl, (Nat.le_of_ble_eq_true rfl), (Nat.le_of_ble_eq_true rfl)⟩ ⟨Nat.le_refl _, Nat.le_refl _⟩ rfl rfl (Nat.le_of_ble_eq_true rfl) dX4_which_35) hD hS hA (fun N9 D10 X11 PM12 PL13 H locs hP hD hS h => ?_)
      refine lv_aload_n hx hb dX4_which_38 rfl (lv_at hl 0 rfl) ?_
      refine gf_X4_10 hx hb hT hown hK hP 0 rfl rfl dX4_which_39 ?_
      refine lv_iconst (v := 1) hx hb dX4_which_42 (by decide) ?_
      refine wl_part (wr := List.filterMap (fun i : Nat => (pW q cs N9 D10 X11 PM12 PL13)[i]?) [0, 9, 10, 11, 12, 13, 14, 15, 16, 17, 18, 19, 20]) (w2 := fun u => (pW q cs u D10 X11 PM12 PL13)) [1, 2, 3, 4, 5, 6, 7, 8] [0, 9, 10, 11, 12, 13, 14, 15, 16, 17, 18, 19, 20] [0, 13, 14, 15, 16, 17, 18, 19, 20, 1, 2, 3, 4, 5, 6, 7, 8, 9, 10, 11, 12] (rn_VN (rest := []) (ci := 0) (wc := (tbW (q 1) cs N9)) hx hb hml hown hT hl.1 hC hS (hP.sub [1, 2, 3, 4, 5, 6, 7, 8] rfl) (hD.sub [1, 2, 3, 4, 5, 6, 7, 8] (by decide) rfl) 0 rfl rfl rfl ck_X4_193 (c_X2_seenCellsOf l G cs ts (q 1) H.size N9 1 _ h) ⟨rfl, rfl, (Nat.le_of_ble_eq_true rfl), (Nat.le_of_ble_eq_true rfl)⟩ ⟨Nat.le_refl _, Nat.le_refl _⟩ rfl rfl (Nat.le_of_ble_eq_true rfl) dX4_which_43) hP hD hS hA rfl rfl rfl (by decide) rfl (fun _ => rfl) (fun r14 N15 H locs hP hD hS h => ?_)
      refine lv_lstore_n (lv' := [(3, .long r14), (0, .ref (q 0 99)), (1, .int x1), (2, .int x2)]) hx hb dX4_which_46 rfl hl (by decide) rfl (fun ls hl => ?_)
      refine lv_aload_n hx hb dX4_which_47 rfl (lv_at hl 1 rfl) ?_
      refine gf_X4_10 hx hb hT hown hK hP 0 rfl rfl dX4_which_48 ?_
      refine lv_iconst (v := 0) hx hb dX4_which_51 (by decide) ?_
      refine wl_part (wr := List.filterMap (fun i : Nat => (pW q cs N15 D10 X11 PM12 PL13)[i]?) [0, 9, 10, 11, 12, 13, 14, 15, 16, 17, 18, 19, 20]) (w2 := fun u => (pW q cs u D10 X11 PM12 PL13)) [1, 2, 3, 4, 5, 6, 7, 8] [0, 9, 10, 11, 12, 13, 14, 15, 16, 17, 18, 19, 20] [0, 13, 14, 15, 16, 17, 18, 19, 20, 1, 2, 3, 4, 5, 6, 7, 8, 9, 10, 11, 12] (rn_VN (rest := []) (ci := 0) (wc := (tbW (q 1) cs N15)) hx hb hml hown hT hl.1 hC hS (hP.sub [1, 2, 3, 4, 5, 6, 7, 8] rfl) (hD.sub [1, 2, 3, 4, 5, 6, 7, 8] (by decide) rfl) 0 rfl rfl rfl ck_X4_193 (c_X2_seenCellsOf l G cs ts (q 1) H.size N15 0 _ h) ⟨rfl, rfl, (Nat.le_of_ble_eq_true rfl), (Nat.le_of_ble_eq_true rfl)⟩ ⟨Nat.le_refl _, Nat.le_refl _⟩ rfl rfl (Nat.le_of_ble_eq_true rfl) dX4_which_52) hP hD hS hA rfl rfl rfl (by decide) rfl (fun _ => rfl) (fun r16 N17 H locs hP hD hS h => ?_)
      refine lv_lstore (lv' := [(5, .long r16), (3, .long r14), (0, .ref (q 0 99)), (1, .int x1), (2, .int x2)]) hx hb dX4_which_55 hl (by decide) rfl (fun ls hl => ?_)
      refine lv_iconst (v := 0) hx hb dX4_which_57 (by decide) ?_
      refine lv_istore (lv' := [(7, .int 0), (5, .long r16), (3, .long r14), (0, .ref (q 0 99)), (1, .int x1), (2, .int x2)]) hx hb dX4_which_58 hl (by decide) rfl (fun ls hl => ?_)
      refine lv_iconst (v := (-1)) hx hb dX4_which_60 (by decide) ?_
      refine lv_istore (lv' := [(8, .int (-1)), (7, .int 0), (5, .long r16), (3, .long r14), (0, .ref (q 0 99)), (1, .int x1), (2, .int x2)]) hx hb dX4_which_61 hl (by decide) rfl (fun ls hl => ?_)
      refine lv_iconst (v := 0) hx hb dX4_which_63 (by decide) ?_
      refine lv_istore (lv' := [(9, .int 0), (8, .int (-1)), (7, .int 0), (5, .long r16), (3, .long r14), (0, .ref (q 0 99)), (1, .int x1), (2, .int x2)]) hx hb dX4_which_64 hl (by decide) rfl (fun ls hl => ?_)
      obtain ⟨n23, h⟩ := h
      refine HL66 _ _ _ _ _ _ _ _ _ _ (fun v20 v21 v22 h H locs hP hD hS ls hl => ?_) n23 _ _ _ h _ _ hP hD hS ls (lv_sub hl [5, 6, 7, 4, 3, 2, 1, 0] rfl)
      refine lv_iload_n hx hb dX4_which_111 rfl (lv_at hl 2 rfl) ?_
      refine lv_if_ne (tgt := 120) hx hb dX4_which_112 (by decide) (fun ct => ?_) (fun ct => ?_)
      · have h := h.1 ct
        refine lv_iload hx hb dX4_which_120 (lv_at hl 6 rfl) ?_
        exact rt_Wi hx hb hr hlk dX4_which_122 (N17, D10, X11, PM12, PL13) hP hD hS h
      · have h := h.2 ct
        refine lv_iload hx hb dX4_which_115 (lv_at hl 5 rfl) ?_
        refine lv_goto (tgt := 122) hx hb dX4_which_117 (by decide) ?_
        exact rt_Wi hx hb hr hlk dX4_which_122 (N17, D10, X11, PM12, PL13) hP hD hS h
    · have h := h.2 ct
      refine lv_aload_n hx hb dX4_which_18 rfl (lv_at hl 0 rfl) ?_
      refine lv_bipush (v := (-10)) hx hb dX4_which_19 (by decide) ?_
      refine wi_allP (rn_V (rest := []) (ci := 2) hx hb hml hown hT hl.1 hC hS hP hD 0 rfl rfl rfl ck_X4_55 (c_X4_refuseBad l G cs ts q H.size N D X PM PL (-10) _ h) ⟨rfl, rfl, (Nat.le_of_ble_eq_true rfl), (Nat.le_of_ble_eq_true rfl)⟩ ⟨Nat.le_refl _, Nat.le_refl _⟩ rfl rfl (Nat.le_of_ble_eq_true rfl) dX4_which_21) hD hS hA (fun r24 N25 D26 X27 PM28 PL29 H locs hP hD hS h => ?_)
      exact rt_Wi hx hb hr hlk dX4_which_24 (N25, D26, X27, PM28, PL29) hP hD hS h
abbrev rm_X4_keepFitting : Room := { frames := 1, cells := 0, slots := 0, locals := 25 }
set_option maxRecDepth 100000 in
set_option maxHeartbeats 4000000 in
theorem c_X4_keepFitting (l : Launch) (G : va_G) (cs ts : Nat → Nat) (q : Nat → Nat → Nat) (sz : Nat)  (N : ZI) (D : ZI) (X : ZI) (PM : ZI) (PL : ZL)    (post : Int32 → ZI → ZI → ZI → ZI → ZL → Prop) (h : w_X4_keepFitting N D X PM PL post) : Met l yX4_keepFitting [.code yX4_keepFitting cX4_keepFitting 7 (some .int)] rm_X4_keepFitting (va_Pc [.ref (q 0 99)] (CP G cs ts (pW q cs N D X PM PL) sz)) (va_Qi (fun (r : Int32) (u : ZI × ZI × ZI × ZI × ZL) => post r u.1 u.2.1 u.2.2.1 u.2.2.2.1 u.2.2.2.2) (CB G (va_A (pW q cs N D X PM PL) sz) (fun u => (pW q cs u.1 u.2.1 u.2.2.1 u.2.2.2.1 u.2.2.2.2))) (va_A (pW q cs N D X PM PL) sz)) 0 0 (va_A (pW q cs N D X PM PL) sz) := by
  refine ax_W (Qc := fun A => va_Qi (fun (r : Int32) (u : ZI × ZI × ZI × ZI × ZL) => post r u.1 u.2.1 u.2.2.1 u.2.2.2.1 u.2.2.2.2) (CB G A (fun u => (pW q cs u.1 u.2.1 u.2.2.1 u.2.2.2.1 u.2.2.2.2))) A) (by decide) (Nat.le_of_ble_eq_true rfl) sz ?_
  intro p e s m args below meth c A hx hb hr hlk hml hown hT hC hnm H locs hP hD hS ls hl
  have hK := hC.2.1
  have hA := hC.2.2
  have hl : lv_has ls 7 [(0, .ref (q 0 99))] := hl
  unfold w_X4_keepFitting at h
  have HL24 : ∀ (Nf : ZI) (Df : ZI) (Xf : ZI) (PMf : ZI) (z1 : Int64) (z3 : Int64) (K : ZL → Int32 → Int32 → Prop), (∀ (PLv : ZL) (y5 : Int32) (y6 : Int32), K PLv y5 y6 → ∀ (H : Heap) (locs : List Loc), va_P G vwCl (pW q cs Nf Df Xf PMf PLv) H → va_D A (pW q cs Nf Df Xf PMf PLv) → va_S A s.heap H locs → ∀ ls : Array Slot, lv_has ls 7 [(0, .ref (q 0 99)), (1, .long z1), (3, .long z3), (5, .int y5), (6, .int y6)] → W p l e rm_X4_keepFitting s m args below meth c H locs 0 0 (MQ below (va_Qi (fun (r : Int32) (u : ZI × ZI × ZI × ZI × ZL) => post r u.1 u.2.1 u.2.2.1 u.2.2.2.1 u.2.2.2.2) (CB G A (fun u => (pW q cs u.1 u.2.1 u.2.2.1 u.2.2.2.1 u.2.2.2.2))) A) args s 0 0 A) (F0 m 70 ls [])) → ∀ (n : Nat) (PLv : ZL) (y5 : Int32) (y6 : Int32), itF (w_X4_keepFitting_L24 Nf Df Xf PMf z1 z3 post K) (fun _ _ _ => False) n PLv y5 y6 → ∀ (H : Heap) (locs : List Loc), va_P G vwCl (pW q cs Nf Df Xf PMf PLv) H → va_D A (pW q cs Nf Df Xf PMf PLv) → va_S A s.heap H locs → ∀ ls : Array Slot, lv_has ls 7 [(0, .ref (q 0 99)), (1, .long z1), (3, .long z3), (5, .int y5), (6, .int y6)] → W p l e rm_X4_keepFitting s m args below meth c H locs 0 0 (MQ below (va_Qi (fun (r : Int32) (u : ZI × ZI × ZI × ZI × ZL) => post r u.1 u.2.1 u.2.2.1 u.2.2.2.1 u.2.2.2.2) (CB G A (fun u => (pW q cs u.1 u.2.1 u.2.2.1 u.2.2.2.1 u.2.2.2.2))) A) args s 0 0 A) (F0 m 24 ls []) := by
    intro Nf Df Xf PMf z1 z3 K hKK n
    induction n with
    | zero =>
      intro PLv y5 y6 h
      exact absurd h id
    | succ n ih =>
      intro PLv y5 y6 h H locs hP hD hS ls hl
      have h : w_X4_keepFitting_L24 Nf Df Xf PMf z1 z3 post K (itF (w_X4_keepFitting_L24 Nf Df Xf PMf z1 z3 post K) (fun _ _ _ => False) n) PLv y5 y6 := h
      generalize itF (w_X4_keepFitting_L24 Nf Df Xf PMf z1 z3 post K) (fun _ _ _ => False) n = rec at h ih
      unfold w_X4_keepFitting_L24 at h
      refine lv_iload hx hb dX4_keepFitting_24 (lv_at hl 4 rfl) ?_
      refine lv_sipush (v := 256) hx hb dX4_keepFitting_26 (by decide) ?_
      refine lv_icmp_ge (tgt := 70) hx hb dX4_keepFitting_29 (by decide) (fun ct => ?_) (fun ct => ?_)
      · have h := h.1 ct
        exact hKK _ _ _ h _ _ hP hD hS ls (lv_sub hl [0, 1, 2, 3, 4] rfl)
      · have h := h.2 ct
        refine lv_aload_n hx hb dX4_keepFitting_32 rfl (lv_at hl 0 rfl) ?_
        refine gf_X4_30 hx hb hT hown hK hP 0 rfl rfl dX4_keepFitting_33 ?_
        refine lv_iload hx hb dX4_keepFitting_36 (lv_at hl 4 rfl) ?_
        obtain ⟨hi, h⟩ := h
        refine va_lald hx hb hK hP 20 2 rfl rfl hi dX4_keepFitting_38 ?_
        refine lv_lload_n hx hb dX4_keepFitting_39 rfl (lv_at hl 1 rfl) ?_
        refine lv_lload_n hx hb dX4_keepFitting_40 rfl (lv_at hl 2 rfl) ?_
        refine cl_Si (rn_S (rest := []) hx hb hml hown hT hl.1 ck_X4_197 (c_X4_fits l (PLv 4 y6.toNatClampNeg) z1 z3 _ h) ⟨rfl, rfl, (Nat.le_of_ble_eq_true rfl), (Nat.le_of_ble_eq_true rfl)⟩ ⟨Nat.zero_le _, Nat.zero_le _⟩ rfl rfl (Nat.le_of_ble_eq_true rfl) dX4_keepFitting_41) (fun r5 h => ?_)
        refine lv_if_eq (tgt := 64) hx hb dX4_keepFitting_44 (by decide) (fun ct => ?_) (fun ct => ?_)
        · have h := h.1 ct
          refine lv_iinc (v := y6 + 1) (lv' := [(6, .int (y6 + 1)), (0, .ref (q 0 99)), (1, .long z1), (3, .long z3), (5, .int y5)]) hx hb dX4_keepFitting_64 hl (k := 4) rfl rfl (by decide) rfl (fun ls hl => ?_)
          refine lv_goto (tgt := 24) hx hb dX4_keepFitting_67 (by decide) ?_
          exact ih _ _ _ h _ _ hP hD hS ls (lv_sub hl [1, 2, 3, 4, 0] rfl)
        · have h := h.2 ct
          refine lv_aload_n hx hb dX4_keepFitting_47 rfl (lv_at hl 0 rfl) ?_
          refine gf_X4_30 hx hb hT hown hK hP 0 rfl rfl dX4_keepFitting_48 ?_
          refine lv_iload hx hb dX4_keepFitting_51 (lv_at hl 3 rfl) ?_
          refine lv_aload_n hx hb dX4_keepFitting_53 rfl (lv_at hl 0 rfl) ?_
          refine gf_X4_30 hx hb hT hown hK hP 0 rfl rfl dX4_keepFitting_54 ?_
          refine lv_iload hx hb dX4_keepFitting_57 (lv_at hl 4 rfl) ?_
          obtain ⟨hi, h⟩ := h
          refine va_lald hx hb hK hP 20 2 rfl rfl hi dX4_keepFitting_59 ?_
          obtain ⟨hi, h⟩ := h
          refine va_last hx hb hK hP hD hS 20 2 rfl rfl hi dX4_keepFitting_60 (fun H locs hP hD hS => ?_)
          obtain ⟨PL6, ePL6⟩ : ∃ z : ZL, z = ml PLv 4 y5.toNatClampNeg (PLv 4 y6.toNatClampNeg) := ⟨_, rfl⟩
          have h := h PL6 ePL6
          have hP : va_P G vwCl (pW q cs Nf Df Xf PMf PL6) H := by rw [ePL6]; exact hP
          have hD : va_D A (pW q cs Nf Df Xf PMf PL6) := by rw [ePL6]; exact hD
          refine lv_iinc (v := y5 + 1) (lv' := [(5, .int (y5 + 1)), (0, .ref (q 0 99)), (1, .long z1), (3, .long z3), (6, .int y6)]) hx hb dX4_keepFitting_61 hl (k := 3) rfl rfl (by decide) rfl (fun ls hl => ?_)
          refine lv_iinc (v := y6 + 1) (lv' := [(6, .int (y6 + 1)), (5, .int (y5 + 1)), (0, .ref (q 0 99)), (1, .long z1), (3, .long z3)]) hx hb dX4_keepFitting_64 hl (k := 4) rfl rfl (by decide) rfl (fun ls hl => ?_)
          refine lv_goto (tgt := 24) hx hb dX4_keepFitting_67 (by decide) ?_
          exact ih _ _ _ h _ _ hP hD hS ls (lv_sub hl [2, 3, 4, 1, 0] rfl)
  refine lv_aload_n hx hb dX4_keepFitting_0 rfl (lv_at hl 0 rfl) ?_
  refine gf_X4_10 hx hb hT hown hK hP 0 rfl rfl dX4_keepFitting_1 ?_
  refine lv_iconst (v := 1) hx hb dX4_keepFitting_4 (by decide) ?_
  refine wl_part (wr := List.filterMap (fun i : Nat => (pW q cs N D X PM PL)[i]?) [0, 9, 10, 11, 12, 13, 14, 15, 16, 17, 18, 19, 20]) (w2 := fun u => (pW q cs u D X PM PL)) [1, 2, 3, 4, 5, 6, 7, 8] [0, 9, 10, 11, 12, 13, 14, 15, 16, 17, 18, 19, 20] [0, 13, 14, 15, 16, 17, 18, 19, 20, 1, 2, 3, 4, 5, 6, 7, 8, 9, 10, 11, 12] (rn_VN (rest := []) (ci := 0) (wc := (tbW (q 1) cs N)) hx hb hml hown hT hl.1 hC hS (hP.sub [1, 2, 3, 4, 5, 6, 7, 8] rfl) (hD.sub [1, 2, 3, 4, 5, 6, 7, 8] (by decide) rfl) 0 rfl rfl rfl ck_X4_193 (c_X2_seenCellsOf l G cs ts (q 1) H.size N 1 _ h) ⟨rfl, rfl, (Nat.le_of_ble_eq_true rfl), (Nat.le_of_ble_eq_true rfl)⟩ ⟨Nat.le_refl _, Nat.le_refl _⟩ rfl rfl (Nat.le_of_ble_eq_true rfl) dX4_keepFitting_5) hP hD hS hA rfl rfl rfl (by decide) rfl (fun _ => rfl) (fun r1 N2 H locs hP hD hS h => ?_)
  refine lv_lstore_n (lv' := [(1, .long r1), (0, .ref (q 0 99))]) hx hb dX4_keepFitting_8 rfl hl (by decide) rfl (fun ls hl => ?_)
  refine lv_aload_n hx hb dX4_keepFitting_9 rfl (lv_at hl 1 rfl) ?_
  refine gf_X4_10 hx hb hT hown hK hP 0 rfl rfl dX4_keepFitting_10 ?_
  refine lv_iconst (v := 0) hx hb dX4_keepFitting_13 (by decide) ?_
  refine wl_part (wr := List.filterMap (fun i : Nat => (pW q cs N2 D X PM PL)[i]?) [0, 9, 10, 11, 12, 13, 14, 15, 16, 17, 18, 19, 20]) (w2 := fun u => (pW q cs u D X PM PL)) [1, 2, 3, 4, 5, 6, 7, 8] [0, 9, 10, 11, 12, 13, 14, 15, 16, 17, 18, 19, 20] [0, 13, 14, 15, 16, 17, 18, 19, 20, 1, 2, 3, 4, 5, 6, 7, 8, 9, 10, 11, 12] (rn_VN (rest := []) (ci := 0) (wc := (tbW (q 1) cs N2)) hx hb hml hown hT hl.1 hC hS (hP.sub [1, 2, 3, 4, 5, 6, 7, 8] rfl) (hD.sub [1, 2, 3, 4, 5, 6, 7, 8] (by decide) rfl) 0 rfl rfl rfl ck_X4_193 (c_X2_seenCellsOf l G cs ts (q 1) H.size N2 0 _ h) ⟨rfl, rfl, (Nat.le_of_ble_eq_true rfl), (Nat.le_of_ble_eq_true rfl)⟩ ⟨Nat.le_refl _, Nat.le_refl _⟩ rfl rfl (Nat.le_of_ble_eq_true rfl) dX4_keepFitting_14) hP hD hS hA rfl rfl rfl (by decide) rfl (fun _ => rfl) (fun r3 N4 H locs hP hD hS h => ?_)
  refine lv_lstore_n (lv' := [(3, .long r3), (1, .long r1), (0, .ref (q 0 99))]) hx hb dX4_keepFitting_17 rfl hl (by decide) rfl (fun ls hl => ?_)
  refine lv_iconst (v := 0) hx hb dX4_keepFitting_18 (by decide) ?_
  refine lv_istore (lv' := [(5, .int 0), (3, .long r3), (1, .long r1), (0, .ref (q 0 99))]) hx hb dX4_keepFitting_19 hl (by decide) rfl (fun ls hl => ?_)
  refine lv_iconst (v := 0) hx hb dX4_keepFitting_21 (by decide) ?_
  refine lv_istore (lv' := [(6, .int 0), (5, .int 0), (3, .long r3), (1, .long r1), (0, .ref (q 0 99))]) hx hb dX4_keepFitting_22 hl (by decide) rfl (fun ls hl => ?_)
  obtain ⟨n10, h⟩ := h
  refine HL24 _ _ _ _ _ _ _ (fun PL7 v8 v9 h H locs hP hD hS ls hl => ?_) n10 _ _ _ h _ _ hP hD hS ls (lv_sub hl [4, 3, 2, 1, 0] rfl)
  refine lv_iload hx hb dX4_keepFitting_70 (lv_at hl 3 rfl) ?_
  exact rt_Wi hx hb hr hlk dX4_keepFitting_72 (N4, D, X, PM, PL7) hP hD hS h
abbrev rm_X4_howManyInk : Room := { frames := 0, cells := 0, slots := 0, locals := 0 }
set_option maxRecDepth 100000 in
set_option maxHeartbeats 4000000 in
theorem c_X4_howManyInk (l : Launch) (G : va_G) (cs ts : Nat → Nat) (q : Nat → Nat → Nat) (sz : Nat)  (N : ZI) (D : ZI) (X : ZI) (PM : ZI) (PL : ZL)   (x1 : Int32) (x2 : Int32) (post : Int32 → ZI → ZI → ZI → ZI → ZL → Prop) (h : w_X4_howManyInk N D X PM PL x1 x2 post) : Met l yX4_howManyInk [.code yX4_howManyInk cX4_howManyInk 5 (some .int)] rm_X4_howManyInk (va_Pc [.ref (q 0 99), .int x1, .int x2] (CP G cs ts (pW q cs N D X PM PL) sz)) (va_Qi (fun (r : Int32) (u : ZI × ZI × ZI × ZI × ZL) => post r u.1 u.2.1 u.2.2.1 u.2.2.2.1 u.2.2.2.2) (CB G (va_A (pW q cs N D X PM PL) sz) (fun u => (pW q cs u.1 u.2.1 u.2.2.1 u.2.2.2.1 u.2.2.2.2))) (va_A (pW q cs N D X PM PL) sz)) 0 0 (va_A (pW q cs N D X PM PL) sz) := by
  refine ax_W (Qc := fun A => va_Qi (fun (r : Int32) (u : ZI × ZI × ZI × ZI × ZL) => post r u.1 u.2.1 u.2.2.1 u.2.2.2.1 u.2.2.2.2) (CB G A (fun u => (pW q cs u.1 u.2.1 u.2.2.1 u.2.2.2.1 u.2.2.2.2))) A) (by decide) (Nat.le_of_ble_eq_true rfl) sz ?_
  intro p e s m args below meth c A hx hb hr hlk hml hown hT hC hnm H locs hP hD hS ls hl
  have hK := hC.2.1
  have hA := hC.2.2
  have hl : lv_has ls 5 [(0, .ref (q 0 99)), (1, .int x1), (2, .int x2)] := hl
  unfold w_X4_howManyInk at h
  have HL5 : ∀ (Nf : ZI) (Df : ZI) (Xf : ZI) (PMf : ZI) (PLf : ZL) (z1 : Int32) (z2 : Int32) (K : Int32 → Int32 → Prop), (∀  (y3 : Int32) (y4 : Int32), K y3 y4 → ∀ (H : Heap) (locs : List Loc), va_P G vwCl (pW q cs Nf Df Xf PMf PLf) H → va_D A (pW q cs Nf Df Xf PMf PLf) → va_S A s.heap H locs → ∀ ls : Array Slot, lv_has ls 5 [(0, .ref (q 0 99)), (1, .int z1), (2, .int z2), (3, .int y3), (4, .int y4)] → W p l e rm_X4_howManyInk s m args below meth c H locs 0 0 (MQ below (va_Qi (fun (r : Int32) (u : ZI × ZI × ZI × ZI × ZL) => post r u.1 u.2.1 u.2.2.1 u.2.2.2.1 u.2.2.2.2) (CB G A (fun u => (pW q cs u.1 u.2.1 u.2.2.1 u.2.2.2.1 u.2.2.2.2))) A) args s 0 0 A) (F0 m 44 ls [])) → ∀ (n : Nat)  (y3 : Int32) (y4 : Int32), itF (w_X4_howManyInk_L5 Nf Df Xf PMf PLf z1 z2 post K) (fun _ _ => False) n y3 y4 → ∀ (H : Heap) (locs : List Loc), va_P G vwCl (pW q cs Nf Df Xf PMf PLf) H → va_D A (pW q cs Nf Df Xf PMf PLf) → va_S A s.heap H locs → ∀ ls : Array Slot, lv_has ls 5 [(0, .ref (q 0 99)), (1, .int z1), (2, .int z2), (3, .int y3), (4, .int y4)] → W p l e rm_X4_howManyInk s m args below meth c H locs 0 0 (MQ below (va_Qi (fun (r : Int32) (u : ZI × ZI × ZI × ZI × ZL) => post r u.1 u.2.1 u.2.2.1 u.2.2.2.1 u.2.2.2.2) (CB G A (fun u => (pW q cs u.1 u.2.1 u.2.2.1 u.2.2.2.1 u.2.2.2.2))) A) args s 0 0 A) (F0 m 5 ls []) := by
    intro Nf Df Xf PMf PLf z1 z2 K hKK n
    induction n with
    | zero =>
      intro y3 y4 h
      exact absurd h id
    | succ n ih =>
      intro y3 y4 h H locs hP hD hS ls hl
      have h : w_X4_howManyInk_L5 Nf Df Xf PMf PLf z1 z2 post K (itF (w_X4_howManyInk_L5 Nf Df Xf PMf PLf z1 z2 post K) (fun _ _ => False) n) y3 y4 := h
      generalize itF (w_X4_howManyInk_L5 Nf Df Xf PMf PLf z1 z2 post K) (fun _ _ => False) n = rec at h ih
      unfold w_X4_howManyInk_L5 at h
      refine lv_iload hx hb dX4_howManyInk_5 (lv_at hl 4 rfl) ?_
      refine lv_iload_n hx hb dX4_howManyInk_7 rfl (lv_at hl 2 rfl) ?_
      refine lv_icmp_ge (tgt := 44) hx hb dX4_howManyInk_8 (by decide) (fun ct => ?_) (fun ct => ?_)
      · have h := h.1 ct
        exact hKK _ _ h _ _ hP hD hS ls (lv_sub hl [0, 1, 2, 3, 4] rfl)
      · have h := h.2 ct
        refine lv_iload hx hb dX4_howManyInk_11 (lv_at hl 4 rfl) ?_
        refine lv_sipush (v := 256) hx hb dX4_howManyInk_13 (by decide) ?_
        refine lv_icmp_ge (tgt := 44) hx hb dX4_howManyInk_16 (by decide) (fun ct => ?_) (fun ct => ?_)
        · have h := h.1 ct
          exact hKK _ _ h _ _ hP hD hS ls (lv_sub hl [0, 1, 2, 3, 4] rfl)
        · have h := h.2 ct
          refine lv_aload_n hx hb dX4_howManyInk_19 rfl (lv_at hl 0 rfl) ?_
          refine gf_X4_30 hx hb hT hown hK hP 0 rfl rfl dX4_howManyInk_20 ?_
          refine lv_iload hx hb dX4_howManyInk_23 (lv_at hl 4 rfl) ?_
          obtain ⟨hi, h⟩ := h
          refine va_lald hx hb hK hP 20 2 rfl rfl hi dX4_howManyInk_25 ?_
          refine lv_iload_n hx hb dX4_howManyInk_26 rfl (lv_at hl 1 rfl) ?_
          refine lv_lushr (v := jlushr (PLf 4 y4.toNatClampNeg) z1) hx hb dX4_howManyInk_27 rfl ?_
          refine lv_lconst (v := 1) hx hb dX4_howManyInk_28 (by decide) ?_
          refine lv_land hx hb dX4_howManyInk_29 ?_
          refine lv_lconst (v := 1) hx hb dX4_howManyInk_30 (by decide) ?_
          refine W.lcmp hx hb dX4_howManyInk_31 ?_
          refine lv_if_ne (tgt := 38) hx hb dX4_howManyInk_32 (by decide) (fun ct => ?_) (fun ct => ?_)
          · have h := h.1 ct
            refine lv_iinc (v := y4 + 1) (lv' := [(4, .int (y4 + 1)), (0, .ref (q 0 99)), (1, .int z1), (2, .int z2), (3, .int y3)]) hx hb dX4_howManyInk_38 hl (k := 4) rfl rfl (by decide) rfl (fun ls hl => ?_)
            refine lv_goto (tgt := 5) hx hb dX4_howManyInk_41 (by decide) ?_
            exact ih _ _ h _ _ hP hD hS ls (lv_sub hl [1, 2, 3, 4, 0] rfl)
          · have h := h.2 ct
            refine lv_iinc (v := y3 + 1) (lv' := [(3, .int (y3 + 1)), (0, .ref (q 0 99)), (1, .int z1), (2, .int z2), (4, .int y4)]) hx hb dX4_howManyInk_35 hl (k := 3) rfl rfl (by decide) rfl (fun ls hl => ?_)
            refine lv_iinc (v := y4 + 1) (lv' := [(4, .int (y4 + 1)), (3, .int (y3 + 1)), (0, .ref (q 0 99)), (1, .int z1), (2, .int z2)]) hx hb dX4_howManyInk_38 hl (k := 4) rfl rfl (by decide) rfl (fun ls hl => ?_)
            refine lv_goto (tgt := 5) hx hb dX4_howManyInk_41 (by decide) ?_
            exact ih _ _ h _ _ hP hD hS ls (lv_sub hl [2, 3, 4, 1, 0] rfl)
  refine lv_iconst (v := 0) hx hb dX4_howManyInk_0 (by decide) ?_
  refine lv_istore_n (lv' := [(3, .int 0), (0, .ref (q 0 99)), (1, .int x1), (2, .int x2)]) hx hb dX4_howManyInk_1 rfl hl (by decide) rfl (fun ls hl => ?_)
  refine lv_iconst (v := 0) hx hb dX4_howManyInk_2 (by decide) ?_
  refine lv_istore (lv' := [(4, .int 0), (3, .int 0), (0, .ref (q 0 99)), (1, .int x1), (2, .int x2)]) hx hb dX4_howManyInk_3 hl (by decide) rfl (fun ls hl => ?_)
  obtain ⟨n3, h⟩ := h
  refine HL5 _ _ _ _ _ _ _ _ (fun v1 v2 h H locs hP hD hS ls hl => ?_) n3 _ _ h _ _ hP hD hS ls (lv_sub hl [2, 3, 4, 1, 0] rfl)
  refine lv_iload_n hx hb dX4_howManyInk_44 rfl (lv_at hl 3 rfl) ?_
  exact rt_Wi hx hb hr hlk dX4_howManyInk_45 (N, D, X, PM, PL) hP hD hS h
abbrev rm_X4_look : Room := { frames := 4, cells := 0, slots := 0, locals := 90 }
set_option maxRecDepth 100000 in
set_option maxHeartbeats 4000000 in
theorem c_X4_look (l : Launch) (G : va_G) (cs ts : Nat → Nat) (q : Nat → Nat → Nat) (sz : Nat)  (N : ZI) (D : ZI) (X : ZI) (PM : ZI) (PL : ZL)   (x1 : Int32) (post : Int32 → ZI → ZI → ZI → ZI → ZL → Prop) (h : w_X4_look N D X PM PL x1 post) : Met l yX4_look [.code yX4_look cX4_look 8 (some .int)] rm_X4_look (va_Pc [.ref (q 0 99), .int x1] (CP G cs ts (pW q cs N D X PM PL) sz)) (va_Qi (fun (r : Int32) (u : ZI × ZI × ZI × ZI × ZL) => post r u.1 u.2.1 u.2.2.1 u.2.2.2.1 u.2.2.2.2) (CB G (va_A (pW q cs N D X PM PL) sz) (fun u => (pW q cs u.1 u.2.1 u.2.2.1 u.2.2.2.1 u.2.2.2.2))) (va_A (pW q cs N D X PM PL) sz)) 0 0 (va_A (pW q cs N D X PM PL) sz) := by
  refine ax_W (Qc := fun A => va_Qi (fun (r : Int32) (u : ZI × ZI × ZI × ZI × ZL) => post r u.1 u.2.1 u.2.2.1 u.2.2.2.1 u.2.2.2.2) (CB G A (fun u => (pW q cs u.1 u.2.1 u.2.2.1 u.2.2.2.1 u.2.2.2.2))) A) (by decide) (Nat.le_of_ble_eq_true rfl) sz ?_
  intro p e s m args below meth c A hx hb hr hlk hml hown hT hC hnm H locs hP hD hS ls hl
  have hK := hC.2.1
  have hA := hC.2.2
  have hl : lv_has ls 8 [(0, .ref (q 0 99)), (1, .int x1)] := hl
  unfold w_X4_look at h
  have HL50 : ∀  (z1 : Int32) (z2 : Int32) (K : ZI → ZI → ZI → ZI → ZL → Int32 → Int32 → Int32 → Prop), (∀ (Nv : ZI) (Dv : ZI) (Xv : ZI) (PMv : ZI) (PLv : ZL) (y3 : Int32) (y4 : Int32) (y5 : Int32), K Nv Dv Xv PMv PLv y3 y4 y5 → ∀ (H : Heap) (locs : List Loc), va_P G vwCl (pW q cs Nv Dv Xv PMv PLv) H → va_D A (pW q cs Nv Dv Xv PMv PLv) → va_S A s.heap H locs → ∀ ls : Array Slot, lv_has ls 8 [(0, .ref (q 0 99)), (1, .int z1), (2, .int z2), (3, .int y3), (4, .int y4), (5, .int y5)] → W p l e rm_X4_look s m args below meth c H locs 0 0 (MQ below (va_Qi (fun (r : Int32) (u : ZI × ZI × ZI × ZI × ZL) => post r u.1 u.2.1 u.2.2.1 u.2.2.2.1 u.2.2.2.2) (CB G A (fun u => (pW q cs u.1 u.2.1 u.2.2.1 u.2.2.2.1 u.2.2.2.2))) A) args s 0 0 A) (F0 m 97 ls [])) → ∀ (n : Nat) (Nv : ZI) (Dv : ZI) (Xv : ZI) (PMv : ZI) (PLv : ZL) (y3 : Int32) (y4 : Int32) (y5 : Int32), itF (w_X4_look_L50 z1 z2 post K) (fun _ _ _ _ _ _ _ _ => False) n Nv Dv Xv PMv PLv y3 y4 y5 → ∀ (H : Heap) (locs : List Loc), va_P G vwCl (pW q cs Nv Dv Xv PMv PLv) H → va_D A (pW q cs Nv Dv Xv PMv PLv) → va_S A s.heap H locs → ∀ ls : Array Slot, lv_has ls 8 [(0, .ref (q 0 99)), (1, .int z1), (2, .int z2), (3, .int y3), (4, .int y4), (5, .int y5)] → W p l e rm_X4_look s m args below meth c H locs 0 0 (MQ below (va_Qi (fun (r : Int32) (u : ZI × ZI × ZI × ZI × ZL) => post r u.1 u.2.1 u.2.2.1 u.2.2.2.1 u.2.2.2.2) (CB G A (fun u => (pW q cs u.1 u.2.1 u.2.2.1 u.2.2.2.1 u.2.2.2.2))) A) args s 0 0 A) (F0 m 50 ls []) := by
    intro z1 z2 K hKK n
    induction n with
    | zero =>
      intro Nv Dv Xv PMv PLv y3 y4 y5 h
      exact absurd h id
    | succ n ih =>
      intro Nv Dv Xv PMv PLv y3 y4 y5 h H locs hP hD hS ls hl
      have h : w_X4_look_L50 z1 z2 post K (itF (w_X4_look_L50 z1 z2 post K) (fun _ _ _ _ _ _ _ _ => False) n) Nv Dv Xv PMv PLv y3 y4 y5 := h
      generalize itF (w_X4_look_L50 z1 z2 post K) (fun _ _ _ _ _ _ _ _ => False) n = rec at h ih
      unfold w_X4_look_L50 at h
      refine lv_iload hx hb dX4_look_50 (lv_at hl 5 rfl) ?_
      refine lv_bipush (v := 63) hx hb dX4_look_52 (by decide) ?_
      refine lv_icmp_gt (tgt := 97) hx hb dX4_look_54 (by decide) (fun ct => ?_) (fun ct => ?_)
      · have h := h.1 ct
        exact hKK _ _ _ _ _ _ _ _ h _ _ hP hD hS ls (lv_sub hl [0, 1, 2, 3, 4, 5] rfl)
      · have h := h.2 ct
        refine lv_aload_n hx hb dX4_look_57 rfl (lv_at hl 0 rfl) ?_
        refine lv_iload hx hb dX4_look_58 (lv_at hl 5 rfl) ?_
        refine lv_iload_n hx hb dX4_look_60 rfl (lv_at hl 2 rfl) ?_
        refine wi_allP (rn_V (rest := []) (ci := 2) hx hb hml hown hT hl.1 hC hS hP hD 0 rfl rfl rfl ck_X4_204 (c_X4_howManyInk l G cs ts q H.size Nv Dv Xv PMv PLv y5 z2 _ h) ⟨rfl, rfl, (Nat.le_of_ble_eq_true rfl), (Nat.le_of_ble_eq_true rfl)⟩ ⟨Nat.le_refl _, Nat.le_refl _⟩ rfl rfl (Nat.le_of_ble_eq_true rfl) dX4_look_61) hD hS hA (fun r14 N15 D16 X17 PM18 PL19 H locs hP hD hS h => ?_)
        refine lv_istore (lv' := [(6, .int r14), (0, .ref (q 0 99)), (1, .int z1), (2, .int z2), (3, .int y3), (4, .int y4), (5, .int y5)]) hx hb dX4_look_64 hl (by decide) rfl (fun ls hl => ?_)
        refine lv_iload hx hb dX4_look_66 (lv_at hl 0 rfl) ?_
        refine lv_iload_n hx hb dX4_look_68 rfl (lv_at hl 3 rfl) ?_
        refine lv_iload hx hb dX4_look_69 (lv_at hl 0 rfl) ?_
        refine lv_isub hx hb dX4_look_71 ?_
        refine km_X4_207 hx hb hml hown hT hl.1 (Nat.le_of_ble_eq_true rfl) (Nat.le_of_ble_eq_true rfl) ⟨Nat.zero_le _, Nat.zero_le _⟩ dX4_look_72 ?_
        refine lv_topi (fun v20 ev20 => ?_)
        have h := h v20 ev20
        refine lv_istore (lv' := [(7, .int v20), (6, .int r14), (0, .ref (q 0 99)), (1, .int z1), (2, .int z2), (3, .int y3), (4, .int y4), (5, .int y5)]) hx hb dX4_look_75 hl (by decide) rfl (fun ls hl => ?_)
        refine lv_iload hx hb dX4_look_77 (lv_at hl 0 rfl) ?_
        refine lv_iload hx hb dX4_look_79 (lv_at hl 6 rfl) ?_
        refine lv_icmp_ge (tgt := 91) hx hb dX4_look_81 (by decide) (fun ct => ?_) (fun ct => ?_)
        · have h := h.1 ct
          refine lv_iinc (v := y5 + 1) (lv' := [(5, .int (y5 + 1)), (7, .int v20), (6, .int r14), (0, .ref (q 0 99)), (1, .int z1), (2, .int z2), (3, .int y3), (4, .int y4)]) hx hb dX4_look_91 hl (k := 7) rfl rfl (by decide) rfl (fun ls hl => ?_)
          refine lv_goto (tgt := 50) hx hb dX4_look_94 (by decide) ?_
          exact ih _ _ _ _ _ _ _ _ h _ _ hP hD hS ls (lv_sub hl [3, 4, 5, 6, 7, 0] rfl)
        · have h := h.2 ct
          refine lv_iload hx hb dX4_look_84 (lv_at hl 0 rfl) ?_
          refine lv_istore (lv' := [(4, .int v20), (7, .int v20), (6, .int r14), (0, .ref (q 0 99)), (1, .int z1), (2, .int z2), (3, .int y3), (5, .int y5)]) hx hb dX4_look_86 hl (by decide) rfl (fun ls hl => ?_)
          refine lv_iload hx hb dX4_look_88 (lv_at hl 7 rfl) ?_
          refine lv_istore_n (lv' := [(3, .int y5), (4, .int v20), (7, .int v20), (6, .int r14), (0, .ref (q 0 99)), (1, .int z1), (2, .int z2), (5, .int y5)]) hx hb dX4_look_90 rfl hl (by decide) rfl (fun ls hl => ?_)
          refine lv_iinc (v := y5 + 1) (lv' := [(5, .int (y5 + 1)), (3, .int y5), (4, .int v20), (7, .int v20), (6, .int r14), (0, .ref (q 0 99)), (1, .int z1), (2, .int z2)]) hx hb dX4_look_91 hl (k := 7) rfl rfl (by decide) rfl (fun ls hl => ?_)
          refine lv_goto (tgt := 50) hx hb dX4_look_94 (by decide) ?_
          exact ih _ _ _ _ _ _ _ _ h _ _ hP hD hS ls (lv_sub hl [5, 6, 7, 1, 2, 0] rfl)
  refine lv_iload_n hx hb dX4_look_0 rfl (lv_at hl 1 rfl) ?_
  refine lv_iconst (v := 0) hx hb dX4_look_1 (by decide) ?_
  refine lv_iconst (v := 1) hx hb dX4_look_2 (by decide) ?_
  refine cl_Si (rn_S (rest := []) hx hb hml hown hT hl.1 ck_X4_51 (c_X4_within l x1 0 1 _ h) ⟨rfl, rfl, (Nat.le_of_ble_eq_true rfl), (Nat.le_of_ble_eq_true rfl)⟩ ⟨Nat.zero_le _, Nat.zero_le _⟩ rfl rfl (Nat.le_of_ble_eq_true rfl) dX4_look_3) (fun r1 h => ?_)
  refine lv_if_ne (tgt := 16) hx hb dX4_look_6 (by decide) (fun ct => ?_) (fun ct => ?_)
  · have h := h.1 ct
    refine lv_aload_n hx hb dX4_look_16 rfl (lv_at hl 0 rfl) ?_
    refine lv_aload_n hx hb dX4_look_17 rfl (lv_at hl 0 rfl) ?_
    refine gf_X4_10 hx hb hT hown hK hP 0 rfl rfl dX4_look_18 ?_
    refine gf_X4_74 hx hb hT hown hK hP 1 rfl rfl dX4_look_21 ?_
    refine lv_iload_n hx hb dX4_look_24 rfl (lv_at hl 1 rfl) ?_
    obtain ⟨hi, h⟩ := h
    refine va_iald hx hb hK hP 2 0 rfl rfl hi dX4_look_25 ?_
    refine wv_allP (rn_V (rest := []) (ci := 2) hx hb hml hown hT hl.1 hC hS hP hD 0 rfl rfl rfl ck_X4_156 (c_X4_placeEverywhere l G cs ts q H.size N D X PM PL (N 0 x1.toNatClampNeg) _ h) ⟨rfl, rfl, (Nat.le_of_ble_eq_true rfl), (Nat.le_of_ble_eq_true rfl)⟩ ⟨Nat.le_refl _, Nat.le_refl _⟩ rfl rfl (Nat.le_of_ble_eq_true rfl) dX4_look_26) hD hS hA (fun N2 D3 X4 PM5 PL6 H locs hP hD hS h => ?_)
    refine lv_aload_n hx hb dX4_look_29 rfl (lv_at hl 0 rfl) ?_
    refine wi_allP (rn_V (rest := []) (ci := 2) hx hb hml hown hT hl.1 hC hS hP hD 0 rfl rfl rfl ck_X4_201 (c_X4_keepFitting l G cs ts q H.size N2 D3 X4 PM5 PL6  _ h) ⟨rfl, rfl, (Nat.le_of_ble_eq_true rfl), (Nat.le_of_ble_eq_true rfl)⟩ ⟨Nat.le_refl _, Nat.le_refl _⟩ rfl rfl (Nat.le_of_ble_eq_true rfl) dX4_look_30) hD hS hA (fun r7 N8 D9 X10 PM11 PL12 H locs hP hD hS h => ?_)
    refine lv_istore_n (lv' := [(2, .int r7), (0, .ref (q 0 99)), (1, .int x1)]) hx hb dX4_look_33 rfl hl (by decide) rfl (fun ls hl => ?_)
    refine lv_iload_n hx hb dX4_look_34 rfl (lv_at hl 0 rfl) ?_
    refine lv_if_ne (tgt := 40) hx hb dX4_look_35 (by decide) (fun ct => ?_) (fun ct => ?_)
    · have h := h.1 ct
      refine lv_iconst (v := 0) hx hb dX4_look_40 (by decide) ?_
      refine lv_istore_n (lv' := [(3, .int 0), (2, .int r7), (0, .ref (q 0 99)), (1, .int x1)]) hx hb dX4_look_41 rfl hl (by decide) rfl (fun ls hl => ?_)
      refine lv_iload_n hx hb dX4_look_42 rfl (lv_at hl 1 rfl) ?_
      refine lv_iconst (v := 1) hx hb dX4_look_43 (by decide) ?_
      refine lv_iadd hx hb dX4_look_44 ?_
      refine lv_topi (fun v13 ev13 => ?_)
      have h := h v13 ev13
      refine lv_istore (lv' := [(4, .int v13), (3, .int 0), (2, .int r7), (0, .ref (q 0 99)), (1, .int x1)]) hx hb dX4_look_45 hl (by decide) rfl (fun ls hl => ?_)
      refine lv_iconst (v := 0) hx hb dX4_look_47 (by decide) ?_
      refine lv_istore (lv' := [(5, .int 0), (4, .int v13), (3, .int 0), (2, .int r7), (0, .ref (q 0 99)), (1, .int x1)]) hx hb dX4_look_48 hl (by decide) rfl (fun ls hl => ?_)
      obtain ⟨n29, h⟩ := h
      refine HL50 _ _ _ (fun N21 D22 X23 PM24 PL25 v26 v27 v28 h H locs hP hD hS ls hl => ?_) n29 _ _ _ _ _ _ _ _ h _ _ hP hD hS ls (lv_sub hl [4, 5, 3, 2, 1, 0] rfl)
      refine lv_iload_n hx hb dX4_look_97 rfl (lv_at hl 3 rfl) ?_
      exact rt_Wi hx hb hr hlk dX4_look_98 (N21, D22, X23, PM24, PL25) hP hD hS h
    · have h := h.2 ct
      refine lv_iconst (v := (-1)) hx hb dX4_look_38 (by decide) ?_
      exact rt_Wi hx hb hr hlk dX4_look_39 (N8, D9, X10, PM11, PL12) hP hD hS h
  · have h := h.2 ct
    refine lv_aload_n hx hb dX4_look_9 rfl (lv_at hl 0 rfl) ?_
    refine lv_bipush (v := (-2)) hx hb dX4_look_10 (by decide) ?_
    refine wi_allP (rn_V (rest := []) (ci := 2) hx hb hml hown hT hl.1 hC hS hP hD 0 rfl rfl rfl ck_X4_55 (c_X4_refuseBad l G cs ts q H.size N D X PM PL (-2) _ h) ⟨rfl, rfl, (Nat.le_of_ble_eq_true rfl), (Nat.le_of_ble_eq_true rfl)⟩ ⟨Nat.le_refl _, Nat.le_refl _⟩ rfl rfl (Nat.le_of_ble_eq_true rfl) dX4_look_12) hD hS hA (fun r30 N31 D32 X33 PM34 PL35 H locs hP hD hS h => ?_)
    exact rt_Wi hx hb hr hlk dX4_look_15 (N31, D32, X33, PM34, PL35) hP hD hS h
abbrev rm_X4_cutAway : Room := { frames := 3, cells := 0, slots := 0, locals := 66 }
set_option maxRecDepth 100000 in
set_option maxHeartbeats 4000000 in
theorem c_X4_cutAway (l : Launch) (G : va_G) (cs ts : Nat → Nat) (q : Nat → Nat → Nat) (sz : Nat)  (N : ZI) (D : ZI) (X : ZI) (PM : ZI) (PL : ZL)   (x1 : Int32) (x2 : Int32) (x3 : Int32) (x4 : Int32) (post : Int32 → ZI → ZI → ZI → ZI → ZL → Prop) (h : w_X4_cutAway N D X PM PL x1 x2 x3 x4 post) : Met l yX4_cutAway [.code yX4_cutAway cX4_cutAway 10 (some .int)] rm_X4_cutAway (va_Pc [.ref (q 0 99), .int x1, .int x2, .int x3, .int x4] (CP G cs ts (pW q cs N D X PM PL) sz)) (va_Qi (fun (r : Int32) (u : ZI × ZI × ZI × ZI × ZL) => post r u.1 u.2.1 u.2.2.1 u.2.2.2.1 u.2.2.2.2) (CB G (va_A (pW q cs N D X PM PL) sz) (fun u => (pW q cs u.1 u.2.1 u.2.2.1 u.2.2.2.1 u.2.2.2.2))) (va_A (pW q cs N D X PM PL) sz)) 0 0 (va_A (pW q cs N D X PM PL) sz) := by
  refine ax_W (Qc := fun A => va_Qi (fun (r : Int32) (u : ZI × ZI × ZI × ZI × ZL) => post r u.1 u.2.1 u.2.2.1 u.2.2.2.1 u.2.2.2.2) (CB G A (fun u => (pW q cs u.1 u.2.1 u.2.2.1 u.2.2.2.1 u.2.2.2.2))) A) (by decide) (Nat.le_of_ble_eq_true rfl) sz ?_
  intro p e s m args below meth c A hx hb hr hlk hml hown hT hC hnm H locs hP hD hS ls hl
  have hK := hC.2.1
  have hA := hC.2.2
  have hl : lv_has ls 10 [(0, .ref (q 0 99)), (1, .int x1), (2, .int x2), (3, .int x3), (4, .int x4)] := hl
  unfold w_X4_cutAway at h
  have HL16 : ∀ (Nf : ZI) (Df : ZI) (Xf : ZI) (PMf : ZI) (PLf : ZL) (z1 : Int32) (z2 : Int32) (z3 : Int32) (z4 : Int32) (z5 : Int64) (K : Int32 → Int32 → Prop), (∀  (y7 : Int32) (y8 : Int32), K y7 y8 → ∀ (H : Heap) (locs : List Loc), va_P G vwCl (pW q cs Nf Df Xf PMf PLf) H → va_D A (pW q cs Nf Df Xf PMf PLf) → va_S A s.heap H locs → ∀ ls : Array Slot, lv_has ls 10 [(0, .ref (q 0 99)), (1, .int z1), (2, .int z2), (3, .int z3), (4, .int z4), (5, .long z5), (7, .int y7), (8, .int y8)] → W p l e rm_X4_cutAway s m args below meth c H locs 0 0 (MQ below (va_Qi (fun (r : Int32) (u : ZI × ZI × ZI × ZI × ZL) => post r u.1 u.2.1 u.2.2.1 u.2.2.2.1 u.2.2.2.2) (CB G A (fun u => (pW q cs u.1 u.2.1 u.2.2.1 u.2.2.2.1 u.2.2.2.2))) A) args s 0 0 A) (F0 m 64 ls [])) → ∀ (n : Nat)  (y7 : Int32) (y8 : Int32), itF (w_X4_cutAway_L16 Nf Df Xf PMf PLf z1 z2 z3 z4 z5 post K) (fun _ _ => False) n y7 y8 → ∀ (H : Heap) (locs : List Loc), va_P G vwCl (pW q cs Nf Df Xf PMf PLf) H → va_D A (pW q cs Nf Df Xf PMf PLf) → va_S A s.heap H locs → ∀ ls : Array Slot, lv_has ls 10 [(0, .ref (q 0 99)), (1, .int z1), (2, .int z2), (3, .int z3), (4, .int z4), (5, .long z5), (7, .int y7), (8, .int y8)] → W p l e rm_X4_cutAway s m args below meth c H locs 0 0 (MQ below (va_Qi (fun (r : Int32) (u : ZI × ZI × ZI × ZI × ZL) => post r u.1 u.2.1 u.2.2.1 u.2.2.2.1 u.2.2.2.2) (CB G A (fun u => (pW q cs u.1 u.2.1 u.2.2.1 u.2.2.2.1 u.2.2.2.2))) A) args s 0 0 A) (F0 m 16 ls []) := by
    intro Nf Df Xf PMf PLf z1 z2 z3 z4 z5 K hKK n
    induction n with
    | zero =>
      intro y7 y8 h
      exact absurd h id
    | succ n ih =>
      intro y7 y8 h H locs hP hD hS ls hl
      have h : w_X4_cutAway_L16 Nf Df Xf PMf PLf z1 z2 z3 z4 z5 post K (itF (w_X4_cutAway_L16 Nf Df Xf PMf PLf z1 z2 z3 z4 z5 post K) (fun _ _ => False) n) y7 y8 := h
      generalize itF (w_X4_cutAway_L16 Nf Df Xf PMf PLf z1 z2 z3 z4 z5 post K) (fun _ _ => False) n = rec at h ih
      unfold w_X4_cutAway_L16 at h
      refine lv_iload hx hb dX4_cutAway_16 (lv_at hl 7 rfl) ?_
      refine lv_bipush (v := 16) hx hb dX4_cutAway_18 (by decide) ?_
      refine lv_icmp_ge (tgt := 64) hx hb dX4_cutAway_20 (by decide) (fun ct => ?_) (fun ct => ?_)
      · have h := h.1 ct
        exact hKK _ _ h _ _ hP hD hS ls (lv_sub hl [0, 1, 2, 3, 4, 5, 6, 7] rfl)
      · have h := h.2 ct
        refine lv_iload_n hx hb dX4_cutAway_23 rfl (lv_at hl 1 rfl) ?_
        refine lv_iconst (v := 1) hx hb dX4_cutAway_24 (by decide) ?_
        refine lv_iload hx hb dX4_cutAway_25 (lv_at hl 7 rfl) ?_
        refine lv_ishl hx hb dX4_cutAway_27 ?_
        refine lv_iand hx hb dX4_cutAway_28 ?_
        refine lv_topi (fun v3 ev3 => ?_)
        have h := h v3 ev3
        refine lv_istore (lv' := [(9, .int v3), (0, .ref (q 0 99)), (1, .int z1), (2, .int z2), (3, .int z3), (4, .int z4), (5, .long z5), (7, .int y7), (8, .int y8)]) hx hb dX4_cutAway_29 hl (by decide) rfl (fun ls hl => ?_)
        refine lv_iload hx hb dX4_cutAway_31 (lv_at hl 0 rfl) ?_
        refine lv_iload hx hb dX4_cutAway_33 (lv_at hl 5 rfl) ?_
        refine cl_Si (rn_SN (rest := []) hx hb hml hown hT hl.1 ck_X4_126 (c_X1_printed l v3 z4 _ h) ⟨rfl, rfl, (Nat.le_of_ble_eq_true rfl), (Nat.le_of_ble_eq_true rfl)⟩ ⟨Nat.zero_le _, Nat.zero_le _⟩ rfl rfl (Nat.le_of_ble_eq_true rfl) dX4_cutAway_35) (fun r4 h => ?_)
        refine lv_iload_n hx hb dX4_cutAway_38 rfl (lv_at hl 3 rfl) ?_
        refine lv_iload_n hx hb dX4_cutAway_39 rfl (lv_at hl 4 rfl) ?_
        refine cl_Sl (rn_SN (rest := []) hx hb hml hown hT hl.1 ck_X4_216 (c_X1_placed l r4 z2 z3 _ h) ⟨rfl, rfl, (Nat.le_of_ble_eq_true rfl), (Nat.le_of_ble_eq_true rfl)⟩ ⟨Nat.zero_le _, Nat.zero_le _⟩ rfl rfl (Nat.le_of_ble_eq_true rfl) dX4_cutAway_40) (fun r5 h => ?_)
        refine lv_lload hx hb dX4_cutAway_43 (lv_at hl 6 rfl) ?_
        refine lv_land hx hb dX4_cutAway_45 ?_
        refine lv_lconst (v := 0) hx hb dX4_cutAway_46 (by decide) ?_
        refine W.lcmp hx hb dX4_cutAway_47 ?_
        refine lv_if_eq (tgt := 58) hx hb dX4_cutAway_48 (by decide) (fun ct => ?_) (fun ct => ?_)
        · have h := h.1 ct
          refine lv_iinc (v := y8 + 1) (lv' := [(8, .int (y8 + 1)), (9, .int v3), (0, .ref (q 0 99)), (1, .int z1), (2, .int z2), (3, .int z3), (4, .int z4), (5, .long z5), (7, .int y7)]) hx hb dX4_cutAway_58 hl (k := 8) rfl rfl (by decide) rfl (fun ls hl => ?_)
          refine lv_goto (tgt := 16) hx hb dX4_cutAway_61 (by decide) ?_
          exact ih _ _ h _ _ hP hD hS ls (lv_sub hl [2, 3, 4, 5, 6, 7, 8, 0] rfl)
        · have h := h.2 ct
          refine lv_iload hx hb dX4_cutAway_51 (lv_at hl 7 rfl) ?_
          refine lv_iload hx hb dX4_cutAway_53 (lv_at hl 0 rfl) ?_
          refine lv_ior hx hb dX4_cutAway_55 ?_
          refine lv_topi (fun v6 ev6 => ?_)
          have h := h v6 ev6
          refine lv_istore (lv' := [(7, .int v6), (9, .int v3), (0, .ref (q 0 99)), (1, .int z1), (2, .int z2), (3, .int z3), (4, .int z4), (5, .long z5), (8, .int y8)]) hx hb dX4_cutAway_56 hl (by decide) rfl (fun ls hl => ?_)
          refine lv_iinc (v := y8 + 1) (lv' := [(8, .int (y8 + 1)), (7, .int v6), (9, .int v3), (0, .ref (q 0 99)), (1, .int z1), (2, .int z2), (3, .int z3), (4, .int z4), (5, .long z5)]) hx hb dX4_cutAway_58 hl (k := 8) rfl rfl (by decide) rfl (fun ls hl => ?_)
          refine lv_goto (tgt := 16) hx hb dX4_cutAway_61 (by decide) ?_
          exact ih _ _ h _ _ hP hD hS ls (lv_sub hl [3, 4, 5, 6, 7, 8, 1, 0] rfl)
  refine lv_aload_n hx hb dX4_cutAway_0 rfl (lv_at hl 0 rfl) ?_
  refine gf_X4_10 hx hb hT hown hK hP 0 rfl rfl dX4_cutAway_1 ?_
  refine lv_iconst (v := 0) hx hb dX4_cutAway_4 (by decide) ?_
  refine wl_part (wr := List.filterMap (fun i : Nat => (pW q cs N D X PM PL)[i]?) [0, 9, 10, 11, 12, 13, 14, 15, 16, 17, 18, 19, 20]) (w2 := fun u => (pW q cs u D X PM PL)) [1, 2, 3, 4, 5, 6, 7, 8] [0, 9, 10, 11, 12, 13, 14, 15, 16, 17, 18, 19, 20] [0, 13, 14, 15, 16, 17, 18, 19, 20, 1, 2, 3, 4, 5, 6, 7, 8, 9, 10, 11, 12] (rn_VN (rest := []) (ci := 0) (wc := (tbW (q 1) cs N)) hx hb hml hown hT hl.1 hC hS (hP.sub [1, 2, 3, 4, 5, 6, 7, 8] rfl) (hD.sub [1, 2, 3, 4, 5, 6, 7, 8] (by decide) rfl) 0 rfl rfl rfl ck_X4_193 (c_X2_seenCellsOf l G cs ts (q 1) H.size N 0 _ h) ⟨rfl, rfl, (Nat.le_of_ble_eq_true rfl), (Nat.le_of_ble_eq_true rfl)⟩ ⟨Nat.le_refl _, Nat.le_refl _⟩ rfl rfl (Nat.le_of_ble_eq_true rfl) dX4_cutAway_5) hP hD hS hA rfl rfl rfl (by decide) rfl (fun _ => rfl) (fun r1 N2 H locs hP hD hS h => ?_)
  refine lv_lstore (lv' := [(5, .long r1), (0, .ref (q 0 99)), (1, .int x1), (2, .int x2), (3, .int x3), (4, .int x4)]) hx hb dX4_cutAway_8 hl (by decide) rfl (fun ls hl => ?_)
  refine lv_iconst (v := 0) hx hb dX4_cutAway_10 (by decide) ?_
  refine lv_istore (lv' := [(7, .int 0), (5, .long r1), (0, .ref (q 0 99)), (1, .int x1), (2, .int x2), (3, .int x3), (4, .int x4)]) hx hb dX4_cutAway_11 hl (by decide) rfl (fun ls hl => ?_)
  refine lv_iconst (v := 0) hx hb dX4_cutAway_13 (by decide) ?_
  refine lv_istore (lv' := [(8, .int 0), (7, .int 0), (5, .long r1), (0, .ref (q 0 99)), (1, .int x1), (2, .int x2), (3, .int x3), (4, .int x4)]) hx hb dX4_cutAway_14 hl (by decide) rfl (fun ls hl => ?_)
  obtain ⟨n9, h⟩ := h
  refine HL16 _ _ _ _ _ _ _ _ _ _ _ (fun v7 v8 h H locs hP hD hS ls hl => ?_) n9 _ _ h _ _ hP hD hS ls (lv_sub hl [3, 4, 5, 6, 7, 2, 1, 0] rfl)
  refine lv_iload hx hb dX4_cutAway_64 (lv_at hl 6 rfl) ?_
  exact rt_Wi hx hb hr hlk dX4_cutAway_66 (N2, D, X, PM, PL) hP hD hS h
abbrev rm_X4_bitten : Room := { frames := 4, cells := 0, slots := 0, locals := 95 }
set_option maxRecDepth 100000 in
set_option maxHeartbeats 4000000 in
theorem c_X4_bitten (l : Launch) (G : va_G) (cs ts : Nat → Nat) (q : Nat → Nat → Nat) (sz : Nat)  (N : ZI) (D : ZI) (X : ZI) (PM : ZI) (PL : ZL)   (x1 : Int32) (x2 : Int32) (x3 : Int32) (x4 : Int32) (x5 : Int32) (post : Int32 → ZI → ZI → ZI → ZI → ZL → Prop) (h : w_X4_bitten N D X PM PL x1 x2 x3 x4 x5 post) : Met l yX4_bitten [.code yX4_bitten cX4_bitten 9 (some .int)] rm_X4_bitten (va_Pc [.ref (q 0 99), .int x1, .int x2, .int x3, .int x4, .int x5] (CP G cs ts (pW q cs N D X PM PL) sz)) (va_Qi (fun (r : Int32) (u : ZI × ZI × ZI × ZI × ZL) => post r u.1 u.2.1 u.2.2.1 u.2.2.2.1 u.2.2.2.2) (CB G (va_A (pW q cs N D X PM PL) sz) (fun u => (pW q cs u.1 u.2.1 u.2.2.1 u.2.2.2.1 u.2.2.2.2))) (va_A (pW q cs N D X PM PL) sz)) 0 0 (va_A (pW q cs N D X PM PL) sz) := by
  refine ax_W (Qc := fun A => va_Qi (fun (r : Int32) (u : ZI × ZI × ZI × ZI × ZL) => post r u.1 u.2.1 u.2.2.1 u.2.2.2.1 u.2.2.2.2) (CB G A (fun u => (pW q cs u.1 u.2.1 u.2.2.1 u.2.2.2.1 u.2.2.2.2))) A) (by decide) (Nat.le_of_ble_eq_true rfl) sz ?_
  intro p e s m args below meth c A hx hb hr hlk hml hown hT hC hnm H locs hP hD hS ls hl
  have hK := hC.2.1
  have hA := hC.2.2
  have hl : lv_has ls 9 [(0, .ref (q 0 99)), (1, .int x1), (2, .int x2), (3, .int x3), (4, .int x4), (5, .int x5)] := hl
  unfold w_X4_bitten at h
  refine lv_iconst (v := 0) hx hb dX4_bitten_0 (by decide) ?_
  refine lv_iload_n hx hb dX4_bitten_1 rfl (lv_at hl 1 rfl) ?_
  refine lv_iload_n hx hb dX4_bitten_2 rfl (lv_at hl 2 rfl) ?_
  refine lv_iload_n hx hb dX4_bitten_3 rfl (lv_at hl 3 rfl) ?_
  refine lv_iload hx hb dX4_bitten_4 (lv_at hl 4 rfl) ?_
  refine cl_Si (rn_S (rest := []) hx hb hml hown hT hl.1 ck_X4_87 (c_X4_isPrint l 0 x1 x2 x3 x4 _ h) ⟨rfl, rfl, (Nat.le_of_ble_eq_true rfl), (Nat.le_of_ble_eq_true rfl)⟩ ⟨Nat.zero_le _, Nat.zero_le _⟩ rfl rfl (Nat.le_of_ble_eq_true rfl) dX4_bitten_6) (fun r1 h => ?_)
  refine lv_if_eq (tgt := 22) hx hb dX4_bitten_9 (by decide) (fun ct => ?_) (fun ct => ?_)
  · have h := h.1 ct
    refine lv_aload_n hx hb dX4_bitten_22 rfl (lv_at hl 0 rfl) ?_
    refine lv_bipush (v := (-2)) hx hb dX4_bitten_23 (by decide) ?_
    refine wi_allP (rn_V (rest := []) (ci := 2) hx hb hml hown hT hl.1 hC hS hP hD 0 rfl rfl rfl ck_X4_55 (c_X4_refuseBad l G cs ts q H.size N D X PM PL (-2) _ h) ⟨rfl, rfl, (Nat.le_of_ble_eq_true rfl), (Nat.le_of_ble_eq_true rfl)⟩ ⟨Nat.le_refl _, Nat.le_refl _⟩ rfl rfl (Nat.le_of_ble_eq_true rfl) dX4_bitten_25) hD hS hA (fun r2 N3 D4 X5 PM6 PL7 H locs hP hD hS h => ?_)
    exact rt_Wi hx hb hr hlk dX4_bitten_28 (N3, D4, X5, PM6, PL7) hP hD hS h
  · have h := h.2 ct
    refine lv_iload hx hb dX4_bitten_12 (lv_at hl 5 rfl) ?_
    refine lv_iconst (v := 0) hx hb dX4_bitten_14 (by decide) ?_
    refine lv_iconst (v := 1) hx hb dX4_bitten_15 (by decide) ?_
    refine cl_Si (rn_S (rest := []) hx hb hml hown hT hl.1 ck_X4_51 (c_X4_within l x5 0 1 _ h) ⟨rfl, rfl, (Nat.le_of_ble_eq_true rfl), (Nat.le_of_ble_eq_true rfl)⟩ ⟨Nat.zero_le _, Nat.zero_le _⟩ rfl rfl (Nat.le_of_ble_eq_true rfl) dX4_bitten_16) (fun r8 h => ?_)
    refine lv_if_ne (tgt := 29) hx hb dX4_bitten_19 (by decide) (fun ct => ?_) (fun ct => ?_)
    · have h := h.1 ct
      refine lv_aload_n hx hb dX4_bitten_29 rfl (lv_at hl 0 rfl) ?_
      refine gf_X4_10 hx hb hT hown hK hP 0 rfl rfl dX4_bitten_30 ?_
      refine gf_X4_74 hx hb hT hown hK hP 1 rfl rfl dX4_bitten_33 ?_
      refine lv_iload_n hx hb dX4_bitten_36 rfl (lv_at hl 1 rfl) ?_
      obtain ⟨hi, h⟩ := h
      refine va_iald hx hb hK hP 2 0 rfl rfl hi dX4_bitten_37 ?_
      refine lv_topi (fun v9 ev9 => ?_)
      have h := h v9 ev9
      refine lv_istore (lv' := [(6, .int v9), (0, .ref (q 0 99)), (1, .int x1), (2, .int x2), (3, .int x3), (4, .int x4), (5, .int x5)]) hx hb dX4_bitten_38 hl (by decide) rfl (fun ls hl => ?_)
      refine lv_iload hx hb dX4_bitten_40 (lv_at hl 6 rfl) ?_
      refine lv_if_ne (tgt := 56) hx hb dX4_bitten_42 (by decide) (fun ct => ?_) (fun ct => ?_)
      · have h := h.1 ct
        refine lv_iload hx hb dX4_bitten_56 (lv_at hl 0 rfl) ?_
        refine lv_iload hx hb dX4_bitten_58 (lv_at hl 5 rfl) ?_
        refine cl_Si (rn_SN (rest := []) hx hb hml hown hT hl.1 ck_X4_126 (c_X1_printed l v9 x4 _ h) ⟨rfl, rfl, (Nat.le_of_ble_eq_true rfl), (Nat.le_of_ble_eq_true rfl)⟩ ⟨Nat.zero_le _, Nat.zero_le _⟩ rfl rfl (Nat.le_of_ble_eq_true rfl) dX4_bitten_60) (fun r10 h => ?_)
        refine lv_iload_n hx hb dX4_bitten_63 rfl (lv_at hl 3 rfl) ?_
        refine lv_iload_n hx hb dX4_bitten_64 rfl (lv_at hl 4 rfl) ?_
        refine cl_Sl (rn_SN (rest := []) hx hb hml hown hT hl.1 ck_X4_216 (c_X1_placed l r10 x2 x3 _ h) ⟨rfl, rfl, (Nat.le_of_ble_eq_true rfl), (Nat.le_of_ble_eq_true rfl)⟩ ⟨Nat.zero_le _, Nat.zero_le _⟩ rfl rfl (Nat.le_of_ble_eq_true rfl) dX4_bitten_65) (fun r11 h => ?_)
        refine lv_lstore (lv' := [(7, .long r11), (6, .int v9), (0, .ref (q 0 99)), (1, .int x1), (2, .int x2), (3, .int x3), (4, .int x4), (5, .int x5)]) hx hb dX4_bitten_68 hl (by decide) rfl (fun ls hl => ?_)
        refine lv_aload_n hx hb dX4_bitten_70 rfl (lv_at hl 2 rfl) ?_
        refine gf_X4_10 hx hb hT hown hK hP 0 rfl rfl dX4_bitten_71 ?_
        refine lv_iconst (v := 1) hx hb dX4_bitten_74 (by decide) ?_
        refine wl_part (wr := List.filterMap (fun i : Nat => (pW q cs N D X PM PL)[i]?) [0, 9, 10, 11, 12, 13, 14, 15, 16, 17, 18, 19, 20]) (w2 := fun u => (pW q cs u D X PM PL)) [1, 2, 3, 4, 5, 6, 7, 8] [0, 9, 10, 11, 12, 13, 14, 15, 16, 17, 18, 19, 20] [0, 13, 14, 15, 16, 17, 18, 19, 20, 1, 2, 3, 4, 5, 6, 7, 8, 9, 10, 11, 12] (rn_VN (rest := []) (ci := 0) (wc := (tbW (q 1) cs N)) hx hb hml hown hT hl.1 hC hS (hP.sub [1, 2, 3, 4, 5, 6, 7, 8] rfl) (hD.sub [1, 2, 3, 4, 5, 6, 7, 8] (by decide) rfl) 0 rfl rfl rfl ck_X4_193 (c_X2_seenCellsOf l G cs ts (q 1) H.size N 1 _ h) ⟨rfl, rfl, (Nat.le_of_ble_eq_true rfl), (Nat.le_of_ble_eq_true rfl)⟩ ⟨Nat.le_refl _, Nat.le_refl _⟩ rfl rfl (Nat.le_of_ble_eq_true rfl) dX4_bitten_75) hP hD hS hA rfl rfl rfl (by decide) rfl (fun _ => rfl) (fun r12 N13 H locs hP hD hS h => ?_)
        refine lv_lload hx hb dX4_bitten_78 (lv_at hl 0 rfl) ?_
        refine ki_X4_219 hx hb hT hown dX4_bitten_80 ?_
        refine lv_lxor hx hb dX4_bitten_83 ?_
        refine lv_land hx hb dX4_bitten_84 ?_
        refine lv_lconst (v := 0) hx hb dX4_bitten_85 (by decide) ?_
        refine W.lcmp hx hb dX4_bitten_86 ?_
        refine lv_if_ne (tgt := 94) hx hb dX4_bitten_87 (by decide) (fun ct => ?_) (fun ct => ?_)
        · have h := h.1 ct
          refine lv_iconst (v := 0) hx hb dX4_bitten_94 (by decide) ?_
          exact rt_Wi hx hb hr hlk dX4_bitten_95 (N13, D, X, PM, PL) hP hD hS h
        · have h := h.2 ct
          refine lv_iconst (v := 1) hx hb dX4_bitten_90 (by decide) ?_
          refine lv_goto (tgt := 95) hx hb dX4_bitten_91 (by decide) ?_
          exact rt_Wi hx hb hr hlk dX4_bitten_95 (N13, D, X, PM, PL) hP hD hS h
      · have h := h.2 ct
        refine lv_aload_n hx hb dX4_bitten_45 rfl (lv_at hl 1 rfl) ?_
        refine lv_iload hx hb dX4_bitten_46 (lv_at hl 0 rfl) ?_
        refine lv_iload_n hx hb dX4_bitten_48 rfl (lv_at hl 3 rfl) ?_
        refine lv_iload_n hx hb dX4_bitten_49 rfl (lv_at hl 4 rfl) ?_
        refine lv_iload hx hb dX4_bitten_50 (lv_at hl 5 rfl) ?_
        refine wi_allP (rn_V (rest := []) (ci := 2) hx hb hml hown hT hl.1 hC hS hP hD 0 rfl rfl rfl ck_X4_212 (c_X4_cutAway l G cs ts q H.size N D X PM PL v9 x2 x3 x4 _ h) ⟨rfl, rfl, (Nat.le_of_ble_eq_true rfl), (Nat.le_of_ble_eq_true rfl)⟩ ⟨Nat.le_refl _, Nat.le_refl _⟩ rfl rfl (Nat.le_of_ble_eq_true rfl) dX4_bitten_52) hD hS hA (fun r14 N15 D16 X17 PM18 PL19 H locs hP hD hS h => ?_)
        exact rt_Wi hx hb hr hlk dX4_bitten_55 (N15, D16, X17, PM18, PL19) hP hD hS h
    · have h := h.2 ct
      refine lv_aload_n hx hb dX4_bitten_22 rfl (lv_at hl 0 rfl) ?_
      refine lv_bipush (v := (-2)) hx hb dX4_bitten_23 (by decide) ?_
      refine wi_allP (rn_V (rest := []) (ci := 2) hx hb hml hown hT hl.1 hC hS hP hD 0 rfl rfl rfl ck_X4_55 (c_X4_refuseBad l G cs ts q H.size N D X PM PL (-2) _ h) ⟨rfl, rfl, (Nat.le_of_ble_eq_true rfl), (Nat.le_of_ble_eq_true rfl)⟩ ⟨Nat.le_refl _, Nat.le_refl _⟩ rfl rfl (Nat.le_of_ble_eq_true rfl) dX4_bitten_25) hD hS hA (fun r20 N21 D22 X23 PM24 PL25 H locs hP hD hS h => ?_)
      exact rt_Wi hx hb hr hlk dX4_bitten_28 (N21, D22, X23, PM24, PL25) hP hD hS h
abbrev rm_X4_setFraction : Room := { frames := 0, cells := 0, slots := 0, locals := 0 }
set_option maxRecDepth 100000 in
set_option maxHeartbeats 4000000 in
theorem c_X4_setFraction (l : Launch) (G : va_G) (cs ts : Nat → Nat) (q : Nat → Nat → Nat) (sz : Nat)  (N : ZI) (D : ZI) (X : ZI) (PM : ZI) (PL : ZL)   (x1 : Int64) (x3 : Int64) (post : ZI → ZI → ZI → ZI → ZL → Prop) (h : w_X4_setFraction N D X PM PL x1 x3 post) : Met l yX4_setFraction [.code yX4_setFraction cX4_setFraction 12 none] rm_X4_setFraction (va_Pc [.ref (q 0 99), .long x1, .long x3] (CP G cs ts (pW q cs N D X PM PL) sz)) (va_Qv (fun (u : ZI × ZI × ZI × ZI × ZL) => post u.1 u.2.1 u.2.2.1 u.2.2.2.1 u.2.2.2.2) (CB G (va_A (pW q cs N D X PM PL) sz) (fun u => (pW q cs u.1 u.2.1 u.2.2.1 u.2.2.2.1 u.2.2.2.2))) (va_A (pW q cs N D X PM PL) sz)) 0 0 (va_A (pW q cs N D X PM PL) sz) := by
  refine ax_W (Qc := fun A => va_Qv (fun (u : ZI × ZI × ZI × ZI × ZL) => post u.1 u.2.1 u.2.2.1 u.2.2.2.1 u.2.2.2.2) (CB G A (fun u => (pW q cs u.1 u.2.1 u.2.2.1 u.2.2.2.1 u.2.2.2.2))) A) (by decide) (Nat.le_of_ble_eq_true rfl) sz ?_
  intro p e s m args below meth c A hx hb hr hlk hml hown hT hC hnm H locs hP hD hS ls hl
  have hK := hC.2.1
  have hA := hC.2.2
  have hl : lv_has ls 12 [(0, .ref (q 0 99)), (1, .long x1), (3, .long x3)] := hl
  unfold w_X4_setFraction at h
  have HL9 : ∀ (Nf : ZI) (Df : ZI) (Xf : ZI) (PMf : ZI) (PLf : ZL) (z1 : Int64) (z3 : Int64) (K : Int64 → Int64 → Int32 → Prop), (∀  (y5 : Int64) (y7 : Int64) (y9 : Int32), K y5 y7 y9 → ∀ (H : Heap) (locs : List Loc), va_P G vwCl (pW q cs Nf Df Xf PMf PLf) H → va_D A (pW q cs Nf Df Xf PMf PLf) → va_S A s.heap H locs → ∀ ls : Array Slot, lv_has ls 12 [(0, .ref (q 0 99)), (1, .long z1), (3, .long z3), (5, .long y5), (7, .long y7), (9, .int y9)] → W p l e rm_X4_setFraction s m args below meth c H locs 0 0 (MQ below (va_Qv (fun (u : ZI × ZI × ZI × ZI × ZL) => post u.1 u.2.1 u.2.2.1 u.2.2.2.1 u.2.2.2.2) (CB G A (fun u => (pW q cs u.1 u.2.1 u.2.2.1 u.2.2.2.1 u.2.2.2.2))) A) args s 0 0 A) (F0 m 44 ls [])) → ∀ (n : Nat)  (y5 : Int64) (y7 : Int64) (y9 : Int32), itF (w_X4_setFraction_L9 Nf Df Xf PMf PLf z1 z3 post K) (fun _ _ _ => False) n y5 y7 y9 → ∀ (H : Heap) (locs : List Loc), va_P G vwCl (pW q cs Nf Df Xf PMf PLf) H → va_D A (pW q cs Nf Df Xf PMf PLf) → va_S A s.heap H locs → ∀ ls : Array Slot, lv_has ls 12 [(0, .ref (q 0 99)), (1, .long z1), (3, .long z3), (5, .long y5), (7, .long y7), (9, .int y9)] → W p l e rm_X4_setFraction s m args below meth c H locs 0 0 (MQ below (va_Qv (fun (u : ZI × ZI × ZI × ZI × ZL) => post u.1 u.2.1 u.2.2.1 u.2.2.2.1 u.2.2.2.2) (CB G A (fun u => (pW q cs u.1 u.2.1 u.2.2.1 u.2.2.2.1 u.2.2.2.2))) A) args s 0 0 A) (F0 m 9 ls []) := by
    intro Nf Df Xf PMf PLf z1 z3 K hKK n
    induction n with
    | zero =>
      intro y5 y7 y9 h
      exact absurd h id
    | succ n ih =>
      intro y5 y7 y9 h H locs hP hD hS ls hl
      have h : w_X4_setFraction_L9 Nf Df Xf PMf PLf z1 z3 post K (itF (w_X4_setFraction_L9 Nf Df Xf PMf PLf z1 z3 post K) (fun _ _ _ => False) n) y5 y7 y9 := h
      generalize itF (w_X4_setFraction_L9 Nf Df Xf PMf PLf z1 z3 post K) (fun _ _ _ => False) n = rec at h ih
      unfold w_X4_setFraction_L9 at h
      refine lv_iload hx hb dX4_setFraction_9 (lv_at hl 5 rfl) ?_
      refine lv_bipush (v := 100) hx hb dX4_setFraction_11 (by decide) ?_
      refine lv_icmp_ge (tgt := 44) hx hb dX4_setFraction_13 (by decide) (fun ct => ?_) (fun ct => ?_)
      · have h := h.1 ct
        exact hKK _ _ _ h _ _ hP hD hS ls (lv_sub hl [0, 1, 2, 3, 4, 5] rfl)
      · have h := h.2 ct
        refine lv_lload hx hb dX4_setFraction_16 (lv_at hl 4 rfl) ?_
        refine lv_lconst (v := 0) hx hb dX4_setFraction_18 (by decide) ?_
        refine W.lcmp hx hb dX4_setFraction_19 ?_
        refine lv_if_le (tgt := 44) hx hb dX4_setFraction_20 (by decide) (fun ct => ?_) (fun ct => ?_)
        · have h := h.1 ct
          exact hKK _ _ _ h _ _ hP hD hS ls (lv_sub hl [0, 1, 2, 3, 4, 5] rfl)
        · have h := h.2 ct
          refine lv_lload hx hb dX4_setFraction_23 (lv_at hl 3 rfl) ?_
          refine lv_lload hx hb dX4_setFraction_25 (lv_at hl 4 rfl) ?_
          obtain ⟨hi, h⟩ := h
          refine lv_lrem hx hb dX4_setFraction_27 hi ?_
          refine lv_topl (fun v1 ev1 => ?_)
          have h := h v1 ev1
          refine lv_lstore (lv' := [(10, .long v1), (0, .ref (q 0 99)), (1, .long z1), (3, .long z3), (5, .long y5), (7, .long y7), (9, .int y9)]) hx hb dX4_setFraction_28 hl (by decide) rfl (fun ls hl => ?_)
          refine lv_lload hx hb dX4_setFraction_30 (lv_at hl 5 rfl) ?_
          refine lv_lstore (lv' := [(5, .long y7), (10, .long v1), (0, .ref (q 0 99)), (1, .long z1), (3, .long z3), (7, .long y7), (9, .int y9)]) hx hb dX4_setFraction_32 hl (by decide) rfl (fun ls hl => ?_)
          refine lv_lload hx hb dX4_setFraction_34 (lv_at hl 1 rfl) ?_
          refine lv_lstore (lv' := [(7, .long v1), (5, .long y7), (10, .long v1), (0, .ref (q 0 99)), (1, .long z1), (3, .long z3), (9, .int y9)]) hx hb dX4_setFraction_36 hl (by decide) rfl (fun ls hl => ?_)
          refine lv_iinc (v := y9 + 1) (lv' := [(9, .int (y9 + 1)), (7, .long v1), (5, .long y7), (10, .long v1), (0, .ref (q 0 99)), (1, .long z1), (3, .long z3)]) hx hb dX4_setFraction_38 hl (k := 6) rfl rfl (by decide) rfl (fun ls hl => ?_)
          refine lv_goto (tgt := 9) hx hb dX4_setFraction_41 (by decide) ?_
          exact ih _ _ _ h _ _ hP hD hS ls (lv_sub hl [4, 5, 6, 2, 1, 0] rfl)
  refine lv_lload_n hx hb dX4_setFraction_0 rfl (lv_at hl 2 rfl) ?_
  refine lv_lstore (lv' := [(5, .long x3), (0, .ref (q 0 99)), (1, .long x1), (3, .long x3)]) hx hb dX4_setFraction_1 hl (by decide) rfl (fun ls hl => ?_)
  refine lv_lload_n hx hb dX4_setFraction_3 rfl (lv_at hl 2 rfl) ?_
  refine lv_lstore (lv' := [(7, .long x1), (5, .long x3), (0, .ref (q 0 99)), (1, .long x1), (3, .long x3)]) hx hb dX4_setFraction_4 hl (by decide) rfl (fun ls hl => ?_)
  refine lv_iconst (v := 0) hx hb dX4_setFraction_6 (by decide) ?_
  refine lv_istore (lv' := [(9, .int 0), (7, .long x1), (5, .long x3), (0, .ref (q 0 99)), (1, .long x1), (3, .long x3)]) hx hb dX4_setFraction_7 hl (by decide) rfl (fun ls hl => ?_)
  obtain ⟨n7, h⟩ := h
  refine HL9 _ _ _ _ _ _ _ _ (fun v2 v3 v4 h H locs hP hD hS ls hl => ?_) n7 _ _ _ h _ _ hP hD hS ls (lv_sub hl [3, 4, 5, 2, 1, 0] rfl)
  refine lv_lload hx hb dX4_setFraction_44 (lv_at hl 3 rfl) ?_
  refine lv_lconst (v := 0) hx hb dX4_setFraction_46 (by decide) ?_
  refine W.lcmp hx hb dX4_setFraction_47 ?_
  refine lv_if_le (tgt := 67) hx hb dX4_setFraction_48 (by decide) (fun ct => ?_) (fun ct => ?_)
  · have h := h.1 ct
    exact rt_Wv hx hb hr hlk dX4_setFraction_67 (N, D, X, PM, PL) hP hD hS h
  · have h := h.2 ct
    refine lv_aload_n hx hb dX4_setFraction_51 rfl (lv_at hl 0 rfl) ?_
    refine lv_lload_n hx hb dX4_setFraction_52 rfl (lv_at hl 1 rfl) ?_
    refine lv_lload hx hb dX4_setFraction_53 (lv_at hl 3 rfl) ?_
    obtain ⟨hi, h⟩ := h
    refine lv_ldiv hx hb dX4_setFraction_55 hi ?_
    refine pf_X4_34 hx hb hT hown hK hP hD hS 0 rfl (Nat.le_of_ble_eq_true rfl) dX4_setFraction_56 (fun H locs hP hD hS => ?_)
    obtain ⟨PL5, ePL5⟩ : ∃ z : ZL, z = ml PL 5 0 (x1 / v2) := ⟨_, rfl⟩
    have h := h PL5 ePL5
    have hP : va_P G vwCl (pW q cs N D X PM PL5) H := by rw [ePL5]; exact hP
    have hD : va_D A (pW q cs N D X PM PL5) := by rw [ePL5]; exact hD
    refine lv_aload_n hx hb dX4_setFraction_59 rfl (lv_at hl 0 rfl) ?_
    refine lv_lload_n hx hb dX4_setFraction_60 rfl (lv_at hl 2 rfl) ?_
    refine lv_lload hx hb dX4_setFraction_61 (lv_at hl 3 rfl) ?_
    obtain ⟨hi, h⟩ := h
    refine lv_ldiv hx hb dX4_setFraction_63 hi ?_
    refine pf_X4_38 hx hb hT hown hK hP hD hS 0 rfl (Nat.le_of_ble_eq_true rfl) dX4_setFraction_64 (fun H locs hP hD hS => ?_)
    obtain ⟨PL6, ePL6⟩ : ∃ z : ZL, z = ml PL5 6 0 (x3 / v2) := ⟨_, rfl⟩
    have h := h PL6 ePL6
    have hP : va_P G vwCl (pW q cs N D X PM PL6) H := by rw [ePL6]; exact hP
    have hD : va_D A (pW q cs N D X PM PL6) := by rw [ePL6]; exact hD
    exact rt_Wv hx hb hr hlk dX4_setFraction_67 (N, D, X, PM, PL6) hP hD hS h
abbrev rm_X4_slips : Room := { frames := 3, cells := 0, slots := 0, locals := 82 }
set_option maxRecDepth 100000 in
set_option maxHeartbeats 4000000 in
theorem c_X4_slips (l : Launch) (G : va_G) (cs ts : Nat → Nat) (q : Nat → Nat → Nat) (sz : Nat)  (N : ZI) (D : ZI) (X : ZI) (PM : ZI) (PL : ZL)   (x1 : Int32) (x2 : Int32) (x3 : Int32) (x4 : Int32) (x5 : Int32) (x6 : Int32) (x7 : Int32) (post : Int32 → ZI → ZI → ZI → ZI → ZL → Prop) (h : w_X4_slips N D X PM PL x1 x2 x3 x4 x5 x6 x7 post) : Met l yX4_slips [.code yX4_slips cX4_slips 16 (some .int)] rm_X4_slips (va_Pc [.ref (q 0 99), .int x1, .int x2, .int x3, .int x4, .int x5, .int x6, .int x7] (CP G cs ts (pW q cs N D X PM PL) sz)) (va_Qi (fun (r : Int32) (u : ZI × ZI × ZI × ZI × ZL) => post r u.1 u.2.1 u.2.2.1 u.2.2.2.1 u.2.2.2.2) (CB G (va_A (pW q cs N D X PM PL) sz) (fun u => (pW q cs u.1 u.2.1 u.2.2.1 u.2.2.2.1 u.2.2.2.2))) (va_A (pW q cs N D X PM PL) sz)) 0 0 (va_A (pW q cs N D X PM PL) sz) := by
  refine ax_W (Qc := fun A => va_Qi (fun (r : Int32) (u : ZI × ZI × ZI × ZI × ZL) => post r u.1 u.2.1 u.2.2.1 u.2.2.2.1 u.2.2.2.2) (CB G A (fun u => (pW q cs u.1 u.2.1 u.2.2.1 u.2.2.2.1 u.2.2.2.2))) A) (by decide) (Nat.le_of_ble_eq_true rfl) sz ?_
  intro p e s m args below meth c A hx hb hr hlk hml hown hT hC hnm H locs hP hD hS ls hl
  have hK := hC.2.1
  have hA := hC.2.2
  have hl : lv_has ls 16 [(0, .ref (q 0 99)), (1, .int x1), (2, .int x2), (3, .int x3), (4, .int x4), (5, .int x5), (6, .int x6), (7, .int x7)] := hl
  unfold w_X4_slips at h
  have HL84 : ∀ (Nf : ZI) (Df : ZI) (Xf : ZI) (PMf : ZI) (PLf : ZL) (z1 : Int32) (z2 : Int32) (z3 : Int32) (z4 : Int32) (z5 : Int32) (z6 : Int32) (z7 : Int32) (z8 : Int32) (K : Int32 → Int64 → Int64 → Int32 → Prop), (∀  (y9 : Int32) (y10 : Int64) (y12 : Int64) (y14 : Int32), K y9 y10 y12 y14 → ∀ (H : Heap) (locs : List Loc), va_P G vwCl (pW q cs Nf Df Xf PMf PLf) H → va_D A (pW q cs Nf Df Xf PMf PLf) → va_S A s.heap H locs → ∀ ls : Array Slot, lv_has ls 16 [(0, .ref (q 0 99)), (1, .int z1), (2, .int z2), (3, .int z3), (4, .int z4), (5, .int z5), (6, .int z6), (7, .int z7), (8, .int z8), (9, .int y9), (10, .long y10), (12, .long y12), (14, .int y14)] → W p l e rm_X4_slips s m args below meth c H locs 0 0 (MQ below (va_Qi (fun (r : Int32) (u : ZI × ZI × ZI × ZI × ZL) => post r u.1 u.2.1 u.2.2.1 u.2.2.2.1 u.2.2.2.2) (CB G A (fun u => (pW q cs u.1 u.2.1 u.2.2.1 u.2.2.2.1 u.2.2.2.2))) A) args s 0 0 A) (F0 m 181 ls [])) → ∀ (n : Nat)  (y9 : Int32) (y10 : Int64) (y12 : Int64) (y14 : Int32), itF (w_X4_slips_L84 Nf Df Xf PMf PLf z1 z2 z3 z4 z5 z6 z7 z8 post K) (fun _ _ _ _ => False) n y9 y10 y12 y14 → ∀ (H : Heap) (locs : List Loc), va_P G vwCl (pW q cs Nf Df Xf PMf PLf) H → va_D A (pW q cs Nf Df Xf PMf PLf) → va_S A s.heap H locs → ∀ ls : Array Slot, lv_has ls 16 [(0, .ref (q 0 99)), (1, .int z1), (2, .int z2), (3, .int z3), (4, .int z4), (5, .int z5), (6, .int z6), (7, .int z7), (8, .int z8), (9, .int y9), (10, .long y10), (12, .long y12), (14, .int y14)] → W p l e rm_X4_slips s m args below meth c H locs 0 0 (MQ below (va_Qi (fun (r : Int32) (u : ZI × ZI × ZI × ZI × ZL) => post r u.1 u.2.1 u.2.2.1 u.2.2.2.1 u.2.2.2.2) (CB G A (fun u => (pW q cs u.1 u.2.1 u.2.2.1 u.2.2.2.1 u.2.2.2.2))) A) args s 0 0 A) (F0 m 84 ls []) := by
    intro Nf Df Xf PMf PLf z1 z2 z3 z4 z5 z6 z7 z8 K hKK n
    induction n with
    | zero =>
      intro y9 y10 y12 y14 h
      exact absurd h id
    | succ n ih =>
      intro y9 y10 y12 y14 h H locs hP hD hS ls hl
      have h : w_X4_slips_L84 Nf Df Xf PMf PLf z1 z2 z3 z4 z5 z6 z7 z8 post K (itF (w_X4_slips_L84 Nf Df Xf PMf PLf z1 z2 z3 z4 z5 z6 z7 z8 post K) (fun _ _ _ _ => False) n) y9 y10 y12 y14 := h
      generalize itF (w_X4_slips_L84 Nf Df Xf PMf PLf z1 z2 z3 z4 z5 z6 z7 z8 post K) (fun _ _ _ _ => False) n = rec at h ih
      unfold w_X4_slips_L84 at h
      refine lv_iload hx hb dX4_slips_84 (lv_at hl 12 rfl) ?_
      refine lv_iload hx hb dX4_slips_86 (lv_at hl 5 rfl) ?_
      refine lv_icmp_ge (tgt := 181) hx hb dX4_slips_88 (by decide) (fun ct => ?_) (fun ct => ?_)
      · have h := h.1 ct
        exact hKK _ _ _ _ h _ _ hP hD hS ls (lv_sub hl [0, 1, 2, 3, 4, 5, 6, 7, 8, 9, 10, 11, 12] rfl)
      · have h := h.2 ct
        refine lv_iconst (v := 0) hx hb dX4_slips_91 (by decide) ?_
        refine lv_istore (lv' := [(15, .int 0), (0, .ref (q 0 99)), (1, .int z1), (2, .int z2), (3, .int z3), (4, .int z4), (5, .int z5), (6, .int z6), (7, .int z7), (8, .int z8), (9, .int y9), (10, .long y10), (12, .long y12), (14, .int y14)]) hx hb dX4_slips_92 hl (by decide) rfl (fun ls hl => ?_)
        refine lv_iload_n hx hb dX4_slips_94 rfl (lv_at hl 2 rfl) ?_
        refine lv_iload hx hb dX4_slips_95 (lv_at hl 10 rfl) ?_
        refine lv_iload hx hb dX4_slips_97 (lv_at hl 9 rfl) ?_
        refine lv_iload_n hx hb dX4_slips_99 rfl (lv_at hl 4 rfl) ?_
        refine lv_iload hx hb dX4_slips_100 (lv_at hl 5 rfl) ?_
        refine lv_iload hx hb dX4_slips_102 (lv_at hl 8 rfl) ?_
        refine cl_Si (rn_SN (rest := []) hx hb hml hown hT hl.1 ck_X4_221 (c_X0_inks l z1 y9 z8 z3 z4 z7 _ h) ⟨rfl, rfl, (Nat.le_of_ble_eq_true rfl), (Nat.le_of_ble_eq_true rfl)⟩ ⟨Nat.zero_le _, Nat.zero_le _⟩ rfl rfl (Nat.le_of_ble_eq_true rfl) dX4_slips_104) (fun r25 h => ?_)
        refine lv_if_eq (tgt := 120) hx hb dX4_slips_107 (by decide) (fun ct => ?_) (fun ct => ?_)
        · have h := h.1 ct
          refine lv_iload_n hx hb dX4_slips_120 rfl (lv_at hl 2 rfl) ?_
          refine lv_iload hx hb dX4_slips_121 (lv_at hl 10 rfl) ?_
          refine lv_iload hx hb dX4_slips_123 (lv_at hl 9 rfl) ?_
          refine lv_iload_n hx hb dX4_slips_125 rfl (lv_at hl 4 rfl) ?_
          refine lv_iconst (v := 1) hx hb dX4_slips_126 (by decide) ?_
          refine lv_iadd hx hb dX4_slips_127 ?_
          refine lv_iload hx hb dX4_slips_128 (lv_at hl 5 rfl) ?_
          refine lv_iload hx hb dX4_slips_130 (lv_at hl 8 rfl) ?_
          refine cl_Si (rn_SN (rest := []) hx hb hml hown hT hl.1 ck_X4_221 (c_X0_inks l z1 y9 z8 (z3 + 1) z4 z7 _ h) ⟨rfl, rfl, (Nat.le_of_ble_eq_true rfl), (Nat.le_of_ble_eq_true rfl)⟩ ⟨Nat.zero_le _, Nat.zero_le _⟩ rfl rfl (Nat.le_of_ble_eq_true rfl) dX4_slips_132) (fun r26 h => ?_)
          refine lv_if_eq (tgt := 145) hx hb dX4_slips_135 (by decide) (fun ct => ?_) (fun ct => ?_)
          · have h := h.1 ct
            refine lv_lload hx hb dX4_slips_145 (lv_at hl 11 rfl) ?_
            refine lv_bipush (v := 10) hx hb dX4_slips_147 (by decide) ?_
            refine lv_iload hx hb dX4_slips_149 (lv_at hl 0 rfl) ?_
            refine lv_isub hx hb dX4_slips_151 ?_
            refine lv_i2l (v := ((10 : Int32) - 0).toInt64) hx hb dX4_slips_152 rfl ?_
            refine lv_lmul hx hb dX4_slips_153 ?_
            refine lv_topl (fun v27 ev27 => ?_)
            have h := h v27 ev27
            refine lv_lstore (lv' := [(10, .long v27), (15, .int 0), (0, .ref (q 0 99)), (1, .int z1), (2, .int z2), (3, .int z3), (4, .int z4), (5, .int z5), (6, .int z6), (7, .int z7), (8, .int z8), (9, .int y9), (12, .long y12), (14, .int y14)]) hx hb dX4_slips_154 hl (by decide) rfl (fun ls hl => ?_)
            refine lv_lload hx hb dX4_slips_156 (lv_at hl 12 rfl) ?_
            refine ki_X4_225 hx hb hT hown dX4_slips_158 ?_
            refine lv_lmul hx hb dX4_slips_161 ?_
            refine lv_topl (fun v28 ev28 => ?_)
            have h := h v28 ev28
            refine lv_lstore (lv' := [(12, .long v28), (10, .long v27), (15, .int 0), (0, .ref (q 0 99)), (1, .int z1), (2, .int z2), (3, .int z3), (4, .int z4), (5, .int z5), (6, .int z6), (7, .int z7), (8, .int z8), (9, .int y9), (14, .int y14)]) hx hb dX4_slips_162 hl (by decide) rfl (fun ls hl => ?_)
            refine lv_iload hx hb dX4_slips_164 (lv_at hl 12 rfl) ?_
            refine lv_iload_n hx hb dX4_slips_166 rfl (lv_at hl 4 rfl) ?_
            refine lv_iload hx hb dX4_slips_167 (lv_at hl 12 rfl) ?_
            refine cl_Si (rn_SN (rest := [.int y9]) hx hb hml hown hT hl.1 ck_X4_143 (c_X0_paintTaken l z1 y9 _ h) ⟨rfl, rfl, (Nat.le_of_ble_eq_true rfl), (Nat.le_of_ble_eq_true rfl)⟩ ⟨Nat.zero_le _, Nat.zero_le _⟩ rfl rfl (Nat.le_of_ble_eq_true rfl) dX4_slips_169) (fun r29 h => ?_)
            refine lv_isub hx hb dX4_slips_172 ?_
            refine lv_topi (fun v30 ev30 => ?_)
            have h := h v30 ev30
            refine lv_istore (lv' := [(9, .int v30), (12, .long v28), (10, .long v27), (15, .int 0), (0, .ref (q 0 99)), (1, .int z1), (2, .int z2), (3, .int z3), (4, .int z4), (5, .int z5), (6, .int z6), (7, .int z7), (8, .int z8), (14, .int y14)]) hx hb dX4_slips_173 hl (by decide) rfl (fun ls hl => ?_)
            refine lv_iinc (v := y14 + 1) (lv' := [(14, .int (y14 + 1)), (9, .int v30), (12, .long v28), (10, .long v27), (15, .int 0), (0, .ref (q 0 99)), (1, .int z1), (2, .int z2), (3, .int z3), (4, .int z4), (5, .int z5), (6, .int z6), (7, .int z7), (8, .int z8)]) hx hb dX4_slips_175 hl (k := 13) rfl rfl (by decide) rfl (fun ls hl => ?_)
            refine lv_goto (tgt := 84) hx hb dX4_slips_178 (by decide) ?_
            exact ih _ _ _ _ h _ _ hP hD hS ls (lv_sub hl [5, 6, 7, 8, 9, 10, 11, 12, 13, 1, 3, 2, 0] rfl)
          · have h := h.2 ct
            refine lv_iload hx hb dX4_slips_138 (lv_at hl 0 rfl) ?_
            refine lv_iload hx hb dX4_slips_140 (lv_at hl 7 rfl) ?_
            refine lv_iadd hx hb dX4_slips_142 ?_
            refine lv_topi (fun v31 ev31 => ?_)
            have h := h v31 ev31
            refine lv_istore (lv' := [(15, .int v31), (0, .ref (q 0 99)), (1, .int z1), (2, .int z2), (3, .int z3), (4, .int z4), (5, .int z5), (6, .int z6), (7, .int z7), (8, .int z8), (9, .int y9), (10, .long y10), (12, .long y12), (14, .int y14)]) hx hb dX4_slips_143 hl (by decide) rfl (fun ls hl => ?_)
            refine lv_lload hx hb dX4_slips_145 (lv_at hl 11 rfl) ?_
            refine lv_bipush (v := 10) hx hb dX4_slips_147 (by decide) ?_
            refine lv_iload hx hb dX4_slips_149 (lv_at hl 0 rfl) ?_
            refine lv_isub hx hb dX4_slips_151 ?_
            refine lv_i2l (v := (10 - v31).toInt64) hx hb dX4_slips_152 rfl ?_
            refine lv_lmul hx hb dX4_slips_153 ?_
            refine lv_topl (fun v32 ev32 => ?_)
            have h := h v32 ev32
            refine lv_lstore (lv' := [(10, .long v32), (15, .int v31), (0, .ref (q 0 99)), (1, .int z1), (2, .int z2), (3, .int z3), (4, .int z4), (5, .int z5), (6, .int z6), (7, .int z7), (8, .int z8), (9, .int y9), (12, .long y12), (14, .int y14)]) hx hb dX4_slips_154 hl (by decide) rfl (fun ls hl => ?_)
            refine lv_lload hx hb dX4_slips_156 (lv_at hl 12 rfl) ?_
            refine ki_X4_225 hx hb hT hown dX4_slips_158 ?_
            refine lv_lmul hx hb dX4_slips_161 ?_
            refine lv_topl (fun v33 ev33 => ?_)
            have h := h v33 ev33
            refine lv_lstore (lv' := [(12, .long v33), (10, .long v32), (15, .int v31), (0, .ref (q 0 99)), (1, .int z1), (2, .int z2), (3, .int z3), (4, .int z4), (5, .int z5), (6, .int z6), (7, .int z7), (8, .int z8), (9, .int y9), (14, .int y14)]) hx hb dX4_slips_162 hl (by decide) rfl (fun ls hl => ?_)
            refine lv_iload hx hb dX4_slips_164 (lv_at hl 12 rfl) ?_
            refine lv_iload_n hx hb dX4_slips_166 rfl (lv_at hl 4 rfl) ?_
            refine lv_iload hx hb dX4_slips_167 (lv_at hl 12 rfl) ?_
            refine cl_Si (rn_SN (rest := [.int y9]) hx hb hml hown hT hl.1 ck_X4_143 (c_X0_paintTaken l z1 y9 _ h) ⟨rfl, rfl, (Nat.le_of_ble_eq_true rfl), (Nat.le_of_ble_eq_true rfl)⟩ ⟨Nat.zero_le _, Nat.zero_le _⟩ rfl rfl (Nat.le_of_ble_eq_true rfl) dX4_slips_169) (fun r34 h => ?_)
            refine lv_isub hx hb dX4_slips_172 ?_
            refine lv_topi (fun v35 ev35 => ?_)
            have h := h v35 ev35
            refine lv_istore (lv' := [(9, .int v35), (12, .long v33), (10, .long v32), (15, .int v31), (0, .ref (q 0 99)), (1, .int z1), (2, .int z2), (3, .int z3), (4, .int z4), (5, .int z5), (6, .int z6), (7, .int z7), (8, .int z8), (14, .int y14)]) hx hb dX4_slips_173 hl (by decide) rfl (fun ls hl => ?_)
            refine lv_iinc (v := y14 + 1) (lv' := [(14, .int (y14 + 1)), (9, .int v35), (12, .long v33), (10, .long v32), (15, .int v31), (0, .ref (q 0 99)), (1, .int z1), (2, .int z2), (3, .int z3), (4, .int z4), (5, .int z5), (6, .int z6), (7, .int z7), (8, .int z8)]) hx hb dX4_slips_175 hl (k := 13) rfl rfl (by decide) rfl (fun ls hl => ?_)
            refine lv_goto (tgt := 84) hx hb dX4_slips_178 (by decide) ?_
            exact ih _ _ _ _ h _ _ hP hD hS ls (lv_sub hl [5, 6, 7, 8, 9, 10, 11, 12, 13, 1, 3, 2, 0] rfl)
        · have h := h.2 ct
          refine lv_iload hx hb dX4_slips_110 (lv_at hl 0 rfl) ?_
          refine lv_bipush (v := 10) hx hb dX4_slips_112 (by decide) ?_
          refine lv_iload hx hb dX4_slips_114 (lv_at hl 7 rfl) ?_
          refine lv_isub hx hb dX4_slips_116 ?_
          refine lv_iadd hx hb dX4_slips_117 ?_
          refine lv_topi (fun v36 ev36 => ?_)
          have h := h v36 ev36
          refine lv_istore (lv' := [(15, .int v36), (0, .ref (q 0 99)), (1, .int z1), (2, .int z2), (3, .int z3), (4, .int z4), (5, .int z5), (6, .int z6), (7, .int z7), (8, .int z8), (9, .int y9), (10, .long y10), (12, .long y12), (14, .int y14)]) hx hb dX4_slips_118 hl (by decide) rfl (fun ls hl => ?_)
          refine lv_iload_n hx hb dX4_slips_120 rfl (lv_at hl 2 rfl) ?_
          refine lv_iload hx hb dX4_slips_121 (lv_at hl 10 rfl) ?_
          refine lv_iload hx hb dX4_slips_123 (lv_at hl 9 rfl) ?_
          refine lv_iload_n hx hb dX4_slips_125 rfl (lv_at hl 4 rfl) ?_
          refine lv_iconst (v := 1) hx hb dX4_slips_126 (by decide) ?_
          refine lv_iadd hx hb dX4_slips_127 ?_
          refine lv_iload hx hb dX4_slips_128 (lv_at hl 5 rfl) ?_
          refine lv_iload hx hb dX4_slips_130 (lv_at hl 8 rfl) ?_
          refine cl_Si (rn_SN (rest := []) hx hb hml hown hT hl.1 ck_X4_221 (c_X0_inks l z1 y9 z8 (z3 + 1) z4 z7 _ h) ⟨rfl, rfl, (Nat.le_of_ble_eq_true rfl), (Nat.le_of_ble_eq_true rfl)⟩ ⟨Nat.zero_le _, Nat.zero_le _⟩ rfl rfl (Nat.le_of_ble_eq_true rfl) dX4_slips_132) (fun r37 h => ?_)
          refine lv_if_eq (tgt := 145) hx hb dX4_slips_135 (by decide) (fun ct => ?_) (fun ct => ?_)
          · have h := h.1 ct
            refine lv_lload hx hb dX4_slips_145 (lv_at hl 11 rfl) ?_
            refine lv_bipush (v := 10) hx hb dX4_slips_147 (by decide) ?_
            refine lv_iload hx hb dX4_slips_149 (lv_at hl 0 rfl) ?_
            refine lv_isub hx hb dX4_slips_151 ?_
            refine lv_i2l (v := (10 - v36).toInt64) hx hb dX4_slips_152 rfl ?_
            refine lv_lmul hx hb dX4_slips_153 ?_
            refine lv_topl (fun v38 ev38 => ?_)
            have h := h v38 ev38
            refine lv_lstore (lv' := [(10, .long v38), (15, .int v36), (0, .ref (q 0 99)), (1, .int z1), (2, .int z2), (3, .int z3), (4, .int z4), (5, .int z5), (6, .int z6), (7, .int z7), (8, .int z8), (9, .int y9), (12, .long y12), (14, .int y14)]) hx hb dX4_slips_154 hl (by decide) rfl (fun ls hl => ?_)
            refine lv_lload hx hb dX4_slips_156 (lv_at hl 12 rfl) ?_
            refine ki_X4_225 hx hb hT hown dX4_slips_158 ?_
            refine lv_lmul hx hb dX4_slips_161 ?_
            refine lv_topl (fun v39 ev39 => ?_)
            have h := h v39 ev39
            refine lv_lstore (lv' := [(12, .long v39), (10, .long v38), (15, .int v36), (0, .ref (q 0 99)), (1, .int z1), (2, .int z2), (3, .int z3), (4, .int z4), (5, .int z5), (6, .int z6), (7, .int z7), (8, .int z8), (9, .int y9), (14, .int y14)]) hx hb dX4_slips_162 hl (by decide) rfl (fun ls hl => ?_)
            refine lv_iload hx hb dX4_slips_164 (lv_at hl 12 rfl) ?_
            refine lv_iload_n hx hb dX4_slips_166 rfl (lv_at hl 4 rfl) ?_
            refine lv_iload hx hb dX4_slips_167 (lv_at hl 12 rfl) ?_
            refine cl_Si (rn_SN (rest := [.int y9]) hx hb hml hown hT hl.1 ck_X4_143 (c_X0_paintTaken l z1 y9 _ h) ⟨rfl, rfl, (Nat.le_of_ble_eq_true rfl), (Nat.le_of_ble_eq_true rfl)⟩ ⟨Nat.zero_le _, Nat.zero_le _⟩ rfl rfl (Nat.le_of_ble_eq_true rfl) dX4_slips_169) (fun r40 h => ?_)
            refine lv_isub hx hb dX4_slips_172 ?_
            refine lv_topi (fun v41 ev41 => ?_)
            have h := h v41 ev41
            refine lv_istore (lv' := [(9, .int v41), (12, .long v39), (10, .long v38), (15, .int v36), (0, .ref (q 0 99)), (1, .int z1), (2, .int z2), (3, .int z3), (4, .int z4), (5, .int z5), (6, .int z6), (7, .int z7), (8, .int z8), (14, .int y14)]) hx hb dX4_slips_173 hl (by decide) rfl (fun ls hl => ?_)
            refine lv_iinc (v := y14 + 1) (lv' := [(14, .int (y14 + 1)), (9, .int v41), (12, .long v39), (10, .long v38), (15, .int v36), (0, .ref (q 0 99)), (1, .int z1), (2, .int z2), (3, .int z3), (4, .int z4), (5, .int z5), (6, .int z6), (7, .int z7), (8, .int z8)]) hx hb dX4_slips_175 hl (k := 13) rfl rfl (by decide) rfl (fun ls hl => ?_)
            refine lv_goto (tgt := 84) hx hb dX4_slips_178 (by decide) ?_
            exact ih _ _ _ _ h _ _ hP hD hS ls (lv_sub hl [5, 6, 7, 8, 9, 10, 11, 12, 13, 1, 3, 2, 0] rfl)
          · have h := h.2 ct
            refine lv_iload hx hb dX4_slips_138 (lv_at hl 0 rfl) ?_
            refine lv_iload hx hb dX4_slips_140 (lv_at hl 7 rfl) ?_
            refine lv_iadd hx hb dX4_slips_142 ?_
            refine lv_topi (fun v42 ev42 => ?_)
            have h := h v42 ev42
            refine lv_istore (lv' := [(15, .int v42), (0, .ref (q 0 99)), (1, .int z1), (2, .int z2), (3, .int z3), (4, .int z4), (5, .int z5), (6, .int z6), (7, .int z7), (8, .int z8), (9, .int y9), (10, .long y10), (12, .long y12), (14, .int y14)]) hx hb dX4_slips_143 hl (by decide) rfl (fun ls hl => ?_)
            refine lv_lload hx hb dX4_slips_145 (lv_at hl 11 rfl) ?_
            refine lv_bipush (v := 10) hx hb dX4_slips_147 (by decide) ?_
            refine lv_iload hx hb dX4_slips_149 (lv_at hl 0 rfl) ?_
            refine lv_isub hx hb dX4_slips_151 ?_
            refine lv_i2l (v := (10 - v42).toInt64) hx hb dX4_slips_152 rfl ?_
            refine lv_lmul hx hb dX4_slips_153 ?_
            refine lv_topl (fun v43 ev43 => ?_)
            have h := h v43 ev43
            refine lv_lstore (lv' := [(10, .long v43), (15, .int v42), (0, .ref (q 0 99)), (1, .int z1), (2, .int z2), (3, .int z3), (4, .int z4), (5, .int z5), (6, .int z6), (7, .int z7), (8, .int z8), (9, .int y9), (12, .long y12), (14, .int y14)]) hx hb dX4_slips_154 hl (by decide) rfl (fun ls hl => ?_)
            refine lv_lload hx hb dX4_slips_156 (lv_at hl 12 rfl) ?_
            refine ki_X4_225 hx hb hT hown dX4_slips_158 ?_
            refine lv_lmul hx hb dX4_slips_161 ?_
            refine lv_topl (fun v44 ev44 => ?_)
            have h := h v44 ev44
            refine lv_lstore (lv' := [(12, .long v44), (10, .long v43), (15, .int v42), (0, .ref (q 0 99)), (1, .int z1), (2, .int z2), (3, .int z3), (4, .int z4), (5, .int z5), (6, .int z6), (7, .int z7), (8, .int z8), (9, .int y9), (14, .int y14)]) hx hb dX4_slips_162 hl (by decide) rfl (fun ls hl => ?_)
            refine lv_iload hx hb dX4_slips_164 (lv_at hl 12 rfl) ?_
            refine lv_iload_n hx hb dX4_slips_166 rfl (lv_at hl 4 rfl) ?_
            refine lv_iload hx hb dX4_slips_167 (lv_at hl 12 rfl) ?_
            refine cl_Si (rn_SN (rest := [.int y9]) hx hb hml hown hT hl.1 ck_X4_143 (c_X0_paintTaken l z1 y9 _ h) ⟨rfl, rfl, (Nat.le_of_ble_eq_true rfl), (Nat.le_of_ble_eq_true rfl)⟩ ⟨Nat.zero_le _, Nat.zero_le _⟩ rfl rfl (Nat.le_of_ble_eq_true rfl) dX4_slips_169) (fun r45 h => ?_)
            refine lv_isub hx hb dX4_slips_172 ?_
            refine lv_topi (fun v46 ev46 => ?_)
            have h := h v46 ev46
            refine lv_istore (lv' := [(9, .int v46), (12, .long v44), (10, .long v43), (15, .int v42), (0, .ref (q 0 99)), (1, .int z1), (2, .int z2), (3, .int z3), (4, .int z4), (5, .int z5), (6, .int z6), (7, .int z7), (8, .int z8), (14, .int y14)]) hx hb dX4_slips_173 hl (by decide) rfl (fun ls hl => ?_)
            refine lv_iinc (v := y14 + 1) (lv' := [(14, .int (y14 + 1)), (9, .int v46), (12, .long v44), (10, .long v43), (15, .int v42), (0, .ref (q 0 99)), (1, .int z1), (2, .int z2), (3, .int z3), (4, .int z4), (5, .int z5), (6, .int z6), (7, .int z7), (8, .int z8)]) hx hb dX4_slips_175 hl (k := 13) rfl rfl (by decide) rfl (fun ls hl => ?_)
            refine lv_goto (tgt := 84) hx hb dX4_slips_178 (by decide) ?_
            exact ih _ _ _ _ h _ _ hP hD hS ls (lv_sub hl [5, 6, 7, 8, 9, 10, 11, 12, 13, 1, 3, 2, 0] rfl)
  refine lv_iload_n hx hb dX4_slips_0 rfl (lv_at hl 1 rfl) ?_
  refine lv_iload_n hx hb dX4_slips_1 rfl (lv_at hl 2 rfl) ?_
  refine lv_iload_n hx hb dX4_slips_2 rfl (lv_at hl 3 rfl) ?_
  refine lv_iload hx hb dX4_slips_3 (lv_at hl 4 rfl) ?_
  refine lv_iconst (v := 0) hx hb dX4_slips_5 (by decide) ?_
  refine cl_Si (rn_S (rest := []) hx hb hml hown hT hl.1 ck_X4_87 (c_X4_isPrint l x1 x2 x3 x4 0 _ h) ⟨rfl, rfl, (Nat.le_of_ble_eq_true rfl), (Nat.le_of_ble_eq_true rfl)⟩ ⟨Nat.zero_le _, Nat.zero_le _⟩ rfl rfl (Nat.le_of_ble_eq_true rfl) dX4_slips_6) (fun r1 h => ?_)
  refine lv_if_eq (tgt := 44) hx hb dX4_slips_9 (by decide) (fun ct => ?_) (fun ct => ?_)
  · have h := h.1 ct
    refine lv_aload_n hx hb dX4_slips_44 rfl (lv_at hl 0 rfl) ?_
    refine lv_bipush (v := (-2)) hx hb dX4_slips_45 (by decide) ?_
    refine wi_allP (rn_V (rest := []) (ci := 2) hx hb hml hown hT hl.1 hC hS hP hD 0 rfl rfl rfl ck_X4_55 (c_X4_refuseBad l G cs ts q H.size N D X PM PL (-2) _ h) ⟨rfl, rfl, (Nat.le_of_ble_eq_true rfl), (Nat.le_of_ble_eq_true rfl)⟩ ⟨Nat.le_refl _, Nat.le_refl _⟩ rfl rfl (Nat.le_of_ble_eq_true rfl) dX4_slips_47) hD hS hA (fun r2 N3 D4 X5 PM6 PL7 H locs hP hD hS h => ?_)
    exact rt_Wi hx hb hr hlk dX4_slips_50 (N3, D4, X5, PM6, PL7) hP hD hS h
  · have h := h.2 ct
    refine lv_iload hx hb dX4_slips_12 (lv_at hl 5 rfl) ?_
    refine lv_iconst (v := 0) hx hb dX4_slips_14 (by decide) ?_
    refine lv_iconst (v := 5) hx hb dX4_slips_15 (by decide) ?_
    refine cl_Si (rn_S (rest := []) hx hb hml hown hT hl.1 ck_X4_51 (c_X4_within l x5 0 5 _ h) ⟨rfl, rfl, (Nat.le_of_ble_eq_true rfl), (Nat.le_of_ble_eq_true rfl)⟩ ⟨Nat.zero_le _, Nat.zero_le _⟩ rfl rfl (Nat.le_of_ble_eq_true rfl) dX4_slips_16) (fun r8 h => ?_)
    refine lv_if_eq (tgt := 44) hx hb dX4_slips_19 (by decide) (fun ct => ?_) (fun ct => ?_)
    · have h := h.1 ct
      refine lv_aload_n hx hb dX4_slips_44 rfl (lv_at hl 0 rfl) ?_
      refine lv_bipush (v := (-2)) hx hb dX4_slips_45 (by decide) ?_
      refine wi_allP (rn_V (rest := []) (ci := 2) hx hb hml hown hT hl.1 hC hS hP hD 0 rfl rfl rfl ck_X4_55 (c_X4_refuseBad l G cs ts q H.size N D X PM PL (-2) _ h) ⟨rfl, rfl, (Nat.le_of_ble_eq_true rfl), (Nat.le_of_ble_eq_true rfl)⟩ ⟨Nat.le_refl _, Nat.le_refl _⟩ rfl rfl (Nat.le_of_ble_eq_true rfl) dX4_slips_47) hD hS hA (fun r9 N10 D11 X12 PM13 PL14 H locs hP hD hS h => ?_)
      exact rt_Wi hx hb hr hlk dX4_slips_50 (N10, D11, X12, PM13, PL14) hP hD hS h
    · have h := h.2 ct
      refine lv_iload hx hb dX4_slips_22 (lv_at hl 6 rfl) ?_
      refine lv_iconst (v := 0) hx hb dX4_slips_24 (by decide) ?_
      refine lv_bipush (v := 10) hx hb dX4_slips_25 (by decide) ?_
      refine cl_Si (rn_S (rest := []) hx hb hml hown hT hl.1 ck_X4_51 (c_X4_within l x6 0 10 _ h) ⟨rfl, rfl, (Nat.le_of_ble_eq_true rfl), (Nat.le_of_ble_eq_true rfl)⟩ ⟨Nat.zero_le _, Nat.zero_le _⟩ rfl rfl (Nat.le_of_ble_eq_true rfl) dX4_slips_27) (fun r15 h => ?_)
      refine lv_if_eq (tgt := 44) hx hb dX4_slips_30 (by decide) (fun ct => ?_) (fun ct => ?_)
      · have h := h.1 ct
        refine lv_aload_n hx hb dX4_slips_44 rfl (lv_at hl 0 rfl) ?_
        refine lv_bipush (v := (-2)) hx hb dX4_slips_45 (by decide) ?_
        refine wi_allP (rn_V (rest := []) (ci := 2) hx hb hml hown hT hl.1 hC hS hP hD 0 rfl rfl rfl ck_X4_55 (c_X4_refuseBad l G cs ts q H.size N D X PM PL (-2) _ h) ⟨rfl, rfl, (Nat.le_of_ble_eq_true rfl), (Nat.le_of_ble_eq_true rfl)⟩ ⟨Nat.le_refl _, Nat.le_refl _⟩ rfl rfl (Nat.le_of_ble_eq_true rfl) dX4_slips_47) hD hS hA (fun r16 N17 D18 X19 PM20 PL21 H locs hP hD hS h => ?_)
        exact rt_Wi hx hb hr hlk dX4_slips_50 (N17, D18, X19, PM20, PL21) hP hD hS h
      · have h := h.2 ct
        refine lv_iload hx hb dX4_slips_33 (lv_at hl 7 rfl) ?_
        refine lv_iconst (v := 0) hx hb dX4_slips_35 (by decide) ?_
        refine lv_bipush (v := 63) hx hb dX4_slips_36 (by decide) ?_
        refine cl_Si (rn_S (rest := []) hx hb hml hown hT hl.1 ck_X4_51 (c_X4_within l x7 0 63 _ h) ⟨rfl, rfl, (Nat.le_of_ble_eq_true rfl), (Nat.le_of_ble_eq_true rfl)⟩ ⟨Nat.zero_le _, Nat.zero_le _⟩ rfl rfl (Nat.le_of_ble_eq_true rfl) dX4_slips_38) (fun r22 h => ?_)
        refine lv_if_ne (tgt := 51) hx hb dX4_slips_41 (by decide) (fun ct => ?_) (fun ct => ?_)
        · have h := h.1 ct
          refine lv_aload_n hx hb dX4_slips_51 rfl (lv_at hl 0 rfl) ?_
          refine gf_X4_10 hx hb hT hown hK hP 0 rfl rfl dX4_slips_52 ?_
          refine gf_X4_74 hx hb hT hown hK hP 1 rfl rfl dX4_slips_55 ?_
          refine lv_iload_n hx hb dX4_slips_58 rfl (lv_at hl 2 rfl) ?_
          obtain ⟨hi, h⟩ := h
          refine va_iald hx hb hK hP 2 0 rfl rfl hi dX4_slips_59 ?_
          refine lv_iconst (v := 0) hx hb dX4_slips_60 (by decide) ?_
          refine cl_Si (rn_SN (rest := []) hx hb hml hown hT hl.1 ck_X4_126 (c_X1_printed l (N 0 x2.toNatClampNeg) 0 _ h) ⟨rfl, rfl, (Nat.le_of_ble_eq_true rfl), (Nat.le_of_ble_eq_true rfl)⟩ ⟨Nat.zero_le _, Nat.zero_le _⟩ rfl rfl (Nat.le_of_ble_eq_true rfl) dX4_slips_61) (fun r23 h => ?_)
          refine lv_istore (lv' := [(8, .int r23), (0, .ref (q 0 99)), (1, .int x1), (2, .int x2), (3, .int x3), (4, .int x4), (5, .int x5), (6, .int x6), (7, .int x7)]) hx hb dX4_slips_64 hl (by decide) rfl (fun ls hl => ?_)
          refine lv_aload_n hx hb dX4_slips_66 rfl (lv_at hl 1 rfl) ?_
          refine gf_X4_10 hx hb hT hown hK hP 0 rfl rfl dX4_slips_67 ?_
          refine gf_X4_81 hx hb hT hown hK hP 1 rfl rfl dX4_slips_70 ?_
          refine lv_topi (fun v24 ev24 => ?_)
          have h := h v24 ev24
          refine lv_istore (lv' := [(9, .int v24), (8, .int r23), (0, .ref (q 0 99)), (1, .int x1), (2, .int x2), (3, .int x3), (4, .int x4), (5, .int x5), (6, .int x6), (7, .int x7)]) hx hb dX4_slips_73 hl (by decide) rfl (fun ls hl => ?_)
          refine lv_lconst (v := 1) hx hb dX4_slips_75 (by decide) ?_
          refine lv_lstore (lv' := [(10, .long 1), (9, .int v24), (8, .int r23), (0, .ref (q 0 99)), (1, .int x1), (2, .int x2), (3, .int x3), (4, .int x4), (5, .int x5), (6, .int x6), (7, .int x7)]) hx hb dX4_slips_76 hl (by decide) rfl (fun ls hl => ?_)
          refine lv_lconst (v := 1) hx hb dX4_slips_78 (by decide) ?_
          refine lv_lstore (lv' := [(12, .long 1), (10, .long 1), (9, .int v24), (8, .int r23), (0, .ref (q 0 99)), (1, .int x1), (2, .int x2), (3, .int x3), (4, .int x4), (5, .int x5), (6, .int x6), (7, .int x7)]) hx hb dX4_slips_79 hl (by decide) rfl (fun ls hl => ?_)
          refine lv_iconst (v := 0) hx hb dX4_slips_81 (by decide) ?_
          refine lv_istore (lv' := [(14, .int 0), (12, .long 1), (10, .long 1), (9, .int v24), (8, .int r23), (0, .ref (q 0 99)), (1, .int x1), (2, .int x2), (3, .int x3), (4, .int x4), (5, .int x5), (6, .int x6), (7, .int x7)]) hx hb dX4_slips_82 hl (by decide) rfl (fun ls hl => ?_)
          obtain ⟨n56, h⟩ := h
          refine HL84 _ _ _ _ _ _ _ _ _ _ _ _ _ _ (fun v47 v48 v49 v50 h H locs hP hD hS ls hl => ?_) n56 _ _ _ _ h _ _ hP hD hS ls (lv_sub hl [5, 6, 7, 8, 9, 10, 11, 12, 4, 3, 2, 1, 0] rfl)
          refine lv_aload_n hx hb dX4_slips_181 rfl (lv_at hl 0 rfl) ?_
          refine lv_lload hx hb dX4_slips_182 (lv_at hl 11 rfl) ?_
          refine lv_lload hx hb dX4_slips_184 (lv_at hl 10 rfl) ?_
          refine lv_lsub hx hb dX4_slips_186 ?_
          refine lv_lload hx hb dX4_slips_187 (lv_at hl 11 rfl) ?_
          refine wv_allP (rn_V (rest := []) (ci := 2) hx hb hml hown hT hl.1 hC hS hP hD 0 rfl rfl rfl ck_X4_227 (c_X4_setFraction l G cs ts q H.size N D X PM PL (v49 - v48) v49 _ h) ⟨rfl, rfl, (Nat.le_of_ble_eq_true rfl), (Nat.le_of_ble_eq_true rfl)⟩ ⟨Nat.le_refl _, Nat.le_refl _⟩ rfl rfl (Nat.le_of_ble_eq_true rfl) dX4_slips_189) hD hS hA (fun N51 D52 X53 PM54 PL55 H locs hP hD hS h => ?_)
          refine lv_iconst (v := 1) hx hb dX4_slips_192 (by decide) ?_
          exact rt_Wi hx hb hr hlk dX4_slips_193 (N51, D52, X53, PM54, PL55) hP hD hS h
        · have h := h.2 ct
          refine lv_aload_n hx hb dX4_slips_44 rfl (lv_at hl 0 rfl) ?_
          refine lv_bipush (v := (-2)) hx hb dX4_slips_45 (by decide) ?_
          refine wi_allP (rn_V (rest := []) (ci := 2) hx hb hml hown hT hl.1 hC hS hP hD 0 rfl rfl rfl ck_X4_55 (c_X4_refuseBad l G cs ts q H.size N D X PM PL (-2) _ h) ⟨rfl, rfl, (Nat.le_of_ble_eq_true rfl), (Nat.le_of_ble_eq_true rfl)⟩ ⟨Nat.le_refl _, Nat.le_refl _⟩ rfl rfl (Nat.le_of_ble_eq_true rfl) dX4_slips_47) hD hS hA (fun r57 N58 D59 X60 PM61 PL62 H locs hP hD hS h => ?_)
          exact rt_Wi hx hb hr hlk dX4_slips_50 (N58, D59, X60, PM61, PL62) hP hD hS h
abbrev rm_X4_sheets : Room := { frames := 4, cells := 0, slots := 0, locals := 97 }
set_option maxRecDepth 100000 in
set_option maxHeartbeats 4000000 in
theorem c_X4_sheets (l : Launch) (G : va_G) (cs ts : Nat → Nat) (q : Nat → Nat → Nat) (sz : Nat)  (N : ZI) (D : ZI) (X : ZI) (PM : ZI) (PL : ZL)   (x1 : Int32) (x2 : Int32) (post : Int32 → ZI → ZI → ZI → ZI → ZL → Prop) (h : w_X4_sheets N D X PM PL x1 x2 post) : Met l yX4_sheets [.code yX4_sheets cX4_sheets 10 (some .int)] rm_X4_sheets (va_Pc [.ref (q 0 99), .int x1, .int x2] (CP G cs ts (pW q cs N D X PM PL) sz)) (va_Qi (fun (r : Int32) (u : ZI × ZI × ZI × ZI × ZL) => post r u.1 u.2.1 u.2.2.1 u.2.2.2.1 u.2.2.2.2) (CB G (va_A (pW q cs N D X PM PL) sz) (fun u => (pW q cs u.1 u.2.1 u.2.2.1 u.2.2.2.1 u.2.2.2.2))) (va_A (pW q cs N D X PM PL) sz)) 0 0 (va_A (pW q cs N D X PM PL) sz) := by
  refine ax_W (Qc := fun A => va_Qi (fun (r : Int32) (u : ZI × ZI × ZI × ZI × ZL) => post r u.1 u.2.1 u.2.2.1 u.2.2.2.1 u.2.2.2.2) (CB G A (fun u => (pW q cs u.1 u.2.1 u.2.2.1 u.2.2.2.1 u.2.2.2.2))) A) (by decide) (Nat.le_of_ble_eq_true rfl) sz ?_
  intro p e s m args below meth c A hx hb hr hlk hml hown hT hC hnm H locs hP hD hS ls hl
  have hK := hC.2.1
  have hA := hC.2.2
  have hl : lv_has ls 10 [(0, .ref (q 0 99)), (1, .int x1), (2, .int x2)] := hl
  unfold w_X4_sheets at h
  have HL44 : ∀ (Nf : ZI) (Xf : ZI) (PMf : ZI) (PLf : ZL) (z1 : Int32) (z2 : Int32) (K : ZI → Int64 → Int32 → Prop), (∀ (Dv : ZI) (y3 : Int64) (y5 : Int32), K Dv y3 y5 → ∀ (H : Heap) (locs : List Loc), va_P G vwCl (pW q cs Nf Dv Xf PMf PLf) H → va_D A (pW q cs Nf Dv Xf PMf PLf) → va_S A s.heap H locs → ∀ ls : Array Slot, lv_has ls 10 [(0, .ref (q 0 99)), (1, .int z1), (2, .int z2), (3, .long y3), (5, .int y5)] → W p l e rm_X4_sheets s m args below meth c H locs 0 0 (MQ below (va_Qi (fun (r : Int32) (u : ZI × ZI × ZI × ZI × ZL) => post r u.1 u.2.1 u.2.2.1 u.2.2.2.1 u.2.2.2.2) (CB G A (fun u => (pW q cs u.1 u.2.1 u.2.2.1 u.2.2.2.1 u.2.2.2.2))) A) args s 0 0 A) (F0 m 148 ls [])) → ∀ (n : Nat) (Dv : ZI) (y3 : Int64) (y5 : Int32), itF (w_X4_sheets_L44 Nf Xf PMf PLf z1 z2 post K) (fun _ _ _ => False) n Dv y3 y5 → ∀ (H : Heap) (locs : List Loc), va_P G vwCl (pW q cs Nf Dv Xf PMf PLf) H → va_D A (pW q cs Nf Dv Xf PMf PLf) → va_S A s.heap H locs → ∀ ls : Array Slot, lv_has ls 10 [(0, .ref (q 0 99)), (1, .int z1), (2, .int z2), (3, .long y3), (5, .int y5)] → W p l e rm_X4_sheets s m args below meth c H locs 0 0 (MQ below (va_Qi (fun (r : Int32) (u : ZI × ZI × ZI × ZI × ZL) => post r u.1 u.2.1 u.2.2.1 u.2.2.2.1 u.2.2.2.2) (CB G A (fun u => (pW q cs u.1 u.2.1 u.2.2.1 u.2.2.2.1 u.2.2.2.2))) A) args s 0 0 A) (F0 m 44 ls []) := by
    intro Nf Xf PMf PLf z1 z2 K hKK n
    induction n with
    | zero =>
      intro Dv y3 y5 h
      exact absurd h id
    | succ n ih =>
      intro Dv y3 y5 h H locs hP hD hS ls hl
      have h : w_X4_sheets_L44 Nf Xf PMf PLf z1 z2 post K (itF (w_X4_sheets_L44 Nf Xf PMf PLf z1 z2 post K) (fun _ _ _ => False) n) Dv y3 y5 := h
      generalize itF (w_X4_sheets_L44 Nf Xf PMf PLf z1 z2 post K) (fun _ _ _ => False) n = rec at h ih
      unfold w_X4_sheets_L44 at h
      refine lv_iload hx hb dX4_sheets_44 (lv_at hl 4 rfl) ?_
      refine lv_iload_n hx hb dX4_sheets_46 rfl (lv_at hl 2 rfl) ?_
      refine lv_icmp_ge (tgt := 148) hx hb dX4_sheets_47 (by decide) (fun ct => ?_) (fun ct => ?_)
      · have h := h.1 ct
        exact hKK _ _ _ h _ _ hP hD hS ls (lv_sub hl [0, 1, 2, 3, 4] rfl)
      · have h := h.2 ct
        refine lv_lload_n hx hb dX4_sheets_50 rfl (lv_at hl 3 rfl) ?_
        refine cl_Sl (rn_S (rest := []) hx hb hml hown hT hl.1 ck_X4_232 (c_X4_nextNumber l y3 _ h) ⟨rfl, rfl, (Nat.le_of_ble_eq_true rfl), (Nat.le_of_ble_eq_true rfl)⟩ ⟨Nat.zero_le _, Nat.zero_le _⟩ rfl rfl (Nat.le_of_ble_eq_true rfl) dX4_sheets_51) (fun r11 h => ?_)
        refine lv_lstore_n (lv' := [(3, .long r11), (0, .ref (q 0 99)), (1, .int z1), (2, .int z2), (5, .int y5)]) hx hb dX4_sheets_54 rfl hl (by decide) rfl (fun ls hl => ?_)
        refine lv_lload_n hx hb dX4_sheets_55 rfl (lv_at hl 0 rfl) ?_
        refine lv_iconst (v := 5) hx hb dX4_sheets_56 (by decide) ?_
        refine cl_Si (rn_S (rest := []) hx hb hml hown hT hl.1 ck_X4_236 (c_X4_drawn l r11 5 _ h) ⟨rfl, rfl, (Nat.le_of_ble_eq_true rfl), (Nat.le_of_ble_eq_true rfl)⟩ ⟨Nat.zero_le _, Nat.zero_le _⟩ rfl rfl (Nat.le_of_ble_eq_true rfl) dX4_sheets_57) (fun r12 h => ?_)
        refine lv_istore (lv' := [(6, .int r12), (3, .long r11), (0, .ref (q 0 99)), (1, .int z1), (2, .int z2), (5, .int y5)]) hx hb dX4_sheets_60 hl (by decide) rfl (fun ls hl => ?_)
        refine lv_lload_n hx hb dX4_sheets_62 rfl (lv_at hl 1 rfl) ?_
        refine cl_Sl (rn_S (rest := []) hx hb hml hown hT hl.1 ck_X4_232 (c_X4_nextNumber l r11 _ h) ⟨rfl, rfl, (Nat.le_of_ble_eq_true rfl), (Nat.le_of_ble_eq_true rfl)⟩ ⟨Nat.zero_le _, Nat.zero_le _⟩ rfl rfl (Nat.le_of_ble_eq_true rfl) dX4_sheets_63) (fun r13 h => ?_)
        refine lv_lstore_n (lv' := [(3, .long r13), (6, .int r12), (0, .ref (q 0 99)), (1, .int z1), (2, .int z2), (5, .int y5)]) hx hb dX4_sheets_66 rfl hl (by decide) rfl (fun ls hl => ?_)
        refine lv_lload_n hx hb dX4_sheets_67 rfl (lv_at hl 0 rfl) ?_
        refine lv_iconst (v := 1) hx hb dX4_sheets_68 (by decide) ?_
        refine cl_Si (rn_S (rest := []) hx hb hml hown hT hl.1 ck_X4_236 (c_X4_drawn l r13 1 _ h) ⟨rfl, rfl, (Nat.le_of_ble_eq_true rfl), (Nat.le_of_ble_eq_true rfl)⟩ ⟨Nat.zero_le _, Nat.zero_le _⟩ rfl rfl (Nat.le_of_ble_eq_true rfl) dX4_sheets_69) (fun r14 h => ?_)
        refine lv_istore (lv' := [(7, .int r14), (3, .long r13), (6, .int r12), (0, .ref (q 0 99)), (1, .int z1), (2, .int z2), (5, .int y5)]) hx hb dX4_sheets_72 hl (by decide) rfl (fun ls hl => ?_)
        refine lv_lload_n hx hb dX4_sheets_74 rfl (lv_at hl 1 rfl) ?_
        refine cl_Sl (rn_S (rest := []) hx hb hml hown hT hl.1 ck_X4_232 (c_X4_nextNumber l r13 _ h) ⟨rfl, rfl, (Nat.le_of_ble_eq_true rfl), (Nat.le_of_ble_eq_true rfl)⟩ ⟨Nat.zero_le _, Nat.zero_le _⟩ rfl rfl (Nat.le_of_ble_eq_true rfl) dX4_sheets_75) (fun r15 h => ?_)
        refine lv_lstore_n (lv' := [(3, .long r15), (7, .int r14), (6, .int r12), (0, .ref (q 0 99)), (1, .int z1), (2, .int z2), (5, .int y5)]) hx hb dX4_sheets_78 rfl hl (by decide) rfl (fun ls hl => ?_)
        refine lv_lload_n hx hb dX4_sheets_79 rfl (lv_at hl 0 rfl) ?_
        refine lv_bipush (v := 63) hx hb dX4_sheets_80 (by decide) ?_
        refine cl_Si (rn_S (rest := []) hx hb hml hown hT hl.1 ck_X4_236 (c_X4_drawn l r15 63 _ h) ⟨rfl, rfl, (Nat.le_of_ble_eq_true rfl), (Nat.le_of_ble_eq_true rfl)⟩ ⟨Nat.zero_le _, Nat.zero_le _⟩ rfl rfl (Nat.le_of_ble_eq_true rfl) dX4_sheets_82) (fun r16 h => ?_)
        refine lv_istore (lv' := [(8, .int r16), (3, .long r15), (7, .int r14), (6, .int r12), (0, .ref (q 0 99)), (1, .int z1), (2, .int z2), (5, .int y5)]) hx hb dX4_sheets_85 hl (by decide) rfl (fun ls hl => ?_)
        refine lv_lload_n hx hb dX4_sheets_87 rfl (lv_at hl 1 rfl) ?_
        refine cl_Sl (rn_S (rest := []) hx hb hml hown hT hl.1 ck_X4_232 (c_X4_nextNumber l r15 _ h) ⟨rfl, rfl, (Nat.le_of_ble_eq_true rfl), (Nat.le_of_ble_eq_true rfl)⟩ ⟨Nat.zero_le _, Nat.zero_le _⟩ rfl rfl (Nat.le_of_ble_eq_true rfl) dX4_sheets_88) (fun r17 h => ?_)
        refine lv_lstore_n (lv' := [(3, .long r17), (8, .int r16), (7, .int r14), (6, .int r12), (0, .ref (q 0 99)), (1, .int z1), (2, .int z2), (5, .int y5)]) hx hb dX4_sheets_91 rfl hl (by decide) rfl (fun ls hl => ?_)
        refine lv_lload_n hx hb dX4_sheets_92 rfl (lv_at hl 0 rfl) ?_
        refine lv_iconst (v := 3) hx hb dX4_sheets_93 (by decide) ?_
        refine cl_Si (rn_S (rest := []) hx hb hml hown hT hl.1 ck_X4_236 (c_X4_drawn l r17 3 _ h) ⟨rfl, rfl, (Nat.le_of_ble_eq_true rfl), (Nat.le_of_ble_eq_true rfl)⟩ ⟨Nat.zero_le _, Nat.zero_le _⟩ rfl rfl (Nat.le_of_ble_eq_true rfl) dX4_sheets_94) (fun r18 h => ?_)
        refine lv_istore (lv' := [(9, .int r18), (3, .long r17), (8, .int r16), (7, .int r14), (6, .int r12), (0, .ref (q 0 99)), (1, .int z1), (2, .int z2), (5, .int y5)]) hx hb dX4_sheets_97 hl (by decide) rfl (fun ls hl => ?_)
        refine lv_aload_n hx hb dX4_sheets_99 rfl (lv_at hl 5 rfl) ?_
        refine gf_X4_16 hx hb hT hown hK hP 0 rfl rfl dX4_sheets_100 ?_
        refine gf_X4_81 hx hb hT hown hK hP 9 rfl rfl dX4_sheets_103 ?_
        refine lv_if_ne (tgt := 118) hx hb dX4_sheets_106 (by decide) (fun ct => ?_) (fun ct => ?_)
        · have h := h.1 ct
          refine lv_aload_n hx hb dX4_sheets_118 rfl (lv_at hl 5 rfl) ?_
          refine gf_X4_16 hx hb hT hown hK hP 0 rfl rfl dX4_sheets_119 ?_
          refine lv_iload hx hb dX4_sheets_122 (lv_at hl 4 rfl) ?_
          refine lv_iload hx hb dX4_sheets_124 (lv_at hl 3 rfl) ?_
          refine lv_iload hx hb dX4_sheets_126 (lv_at hl 2 rfl) ?_
          refine lv_bipush (v := 8) hx hb dX4_sheets_128 (by decide) ?_
          refine lv_irem hx hb dX4_sheets_130 (by decide) ?_
          refine lv_iload hx hb dX4_sheets_131 (lv_at hl 2 rfl) ?_
          refine lv_bipush (v := 8) hx hb dX4_sheets_133 (by decide) ?_
          refine lv_idiv hx hb dX4_sheets_135 (by decide) ?_
          refine lv_iload hx hb dX4_sheets_136 (lv_at hl 0 rfl) ?_
          refine wi_part (wr := List.filterMap (fun i : Nat => (pW q cs Nf Dv Xf PMf PLf)[i]?) [0, 1, 2, 3, 4, 5, 6, 7, 8, 17, 18, 19, 20]) (w2 := fun u => (pW q cs Nf u Xf PMf PLf)) [9, 10, 11, 12, 13, 14, 15, 16] [0, 1, 2, 3, 4, 5, 6, 7, 8, 17, 18, 19, 20] [0, 1, 2, 3, 4, 5, 6, 7, 8, 13, 14, 15, 16, 17, 18, 19, 20, 9, 10, 11, 12] (rn_VN (rest := []) (ci := 0) (wc := (tbW (q 2) cs Dv)) hx hb hml hown hT hl.1 hC hS (hP.sub [9, 10, 11, 12, 13, 14, 15, 16] rfl) (hD.sub [9, 10, 11, 12, 13, 14, 15, 16] (by decide) rfl) 0 rfl rfl rfl ck_X4_95 (c_X2_putPrint l G cs ts (q 2) H.size Dv r12 r14 (jrem r16 8) (r16 / 8) r18 _ h) ⟨rfl, rfl, (Nat.le_of_ble_eq_true rfl), (Nat.le_of_ble_eq_true rfl)⟩ ⟨Nat.le_refl _, Nat.le_refl _⟩ rfl rfl (Nat.le_of_ble_eq_true rfl) dX4_sheets_138) hP hD hS hA rfl rfl rfl (by decide) rfl (fun _ => rfl) (fun r19 D20 H locs hP hD hS h => ?_)
          refine lv_pop hx hb dX4_sheets_141 rfl ?_
          refine lv_iinc (v := y5 + 1) (lv' := [(5, .int (y5 + 1)), (9, .int r18), (3, .long r17), (8, .int r16), (7, .int r14), (6, .int r12), (0, .ref (q 0 99)), (1, .int z1), (2, .int z2)]) hx hb dX4_sheets_142 hl (k := 8) rfl rfl (by decide) rfl (fun ls hl => ?_)
          refine lv_goto (tgt := 44) hx hb dX4_sheets_145 (by decide) ?_
          exact ih _ _ _ h _ _ hP hD hS ls (lv_sub hl [6, 7, 8, 2, 0] rfl)
        · have h := h.2 ct
          refine lv_aload_n hx hb dX4_sheets_109 rfl (lv_at hl 5 rfl) ?_
          refine gf_X4_16 hx hb hT hown hK hP 0 rfl rfl dX4_sheets_110 ?_
          refine lv_bipush (v := 12) hx hb dX4_sheets_113 (by decide) ?_
          refine pf_X4_81 hx hb hT hown hK hP hD hS 9 rfl (Nat.le_of_ble_eq_true rfl) dX4_sheets_115 (fun H locs hP hD hS => ?_)
          obtain ⟨D21, eD21⟩ : ∃ z : ZI, z = mu Dv 2 0 12 := ⟨_, rfl⟩
          have h := h D21 eD21
          have hP : va_P G vwCl (pW q cs Nf D21 Xf PMf PLf) H := by rw [eD21]; exact hP
          have hD : va_D A (pW q cs Nf D21 Xf PMf PLf) := by rw [eD21]; exact hD
          refine lv_aload_n hx hb dX4_sheets_118 rfl (lv_at hl 5 rfl) ?_
          refine gf_X4_16 hx hb hT hown hK hP 0 rfl rfl dX4_sheets_119 ?_
          refine lv_iload hx hb dX4_sheets_122 (lv_at hl 4 rfl) ?_
          refine lv_iload hx hb dX4_sheets_124 (lv_at hl 3 rfl) ?_
          refine lv_iload hx hb dX4_sheets_126 (lv_at hl 2 rfl) ?_
          refine lv_bipush (v := 8) hx hb dX4_sheets_128 (by decide) ?_
          refine lv_irem hx hb dX4_sheets_130 (by decide) ?_
          refine lv_iload hx hb dX4_sheets_131 (lv_at hl 2 rfl) ?_
          refine lv_bipush (v := 8) hx hb dX4_sheets_133 (by decide) ?_
          refine lv_idiv hx hb dX4_sheets_135 (by decide) ?_
          refine lv_iload hx hb dX4_sheets_136 (lv_at hl 0 rfl) ?_
          refine wi_part (wr := List.filterMap (fun i : Nat => (pW q cs Nf D21 Xf PMf PLf)[i]?) [0, 1, 2, 3, 4, 5, 6, 7, 8, 17, 18, 19, 20]) (w2 := fun u => (pW q cs Nf u Xf PMf PLf)) [9, 10, 11, 12, 13, 14, 15, 16] [0, 1, 2, 3, 4, 5, 6, 7, 8, 17, 18, 19, 20] [0, 1, 2, 3, 4, 5, 6, 7, 8, 13, 14, 15, 16, 17, 18, 19, 20, 9, 10, 11, 12] (rn_VN (rest := []) (ci := 0) (wc := (tbW (q 2) cs D21)) hx hb hml hown hT hl.1 hC hS (hP.sub [9, 10, 11, 12, 13, 14, 15, 16] rfl) (hD.sub [9, 10, 11, 12, 13, 14, 15, 16] (by decide) rfl) 0 rfl rfl rfl ck_X4_95 (c_X2_putPrint l G cs ts (q 2) H.size D21 r12 r14 (jrem r16 8) (r16 / 8) r18 _ h) ⟨rfl, rfl, (Nat.le_of_ble_eq_true rfl), (Nat.le_of_ble_eq_true rfl)⟩ ⟨Nat.le_refl _, Nat.le_refl _⟩ rfl rfl (Nat.le_of_ble_eq_true rfl) dX4_sheets_138) hP hD hS hA rfl rfl rfl (by decide) rfl (fun _ => rfl) (fun r22 D23 H locs hP hD hS h => ?_)
          refine lv_pop hx hb dX4_sheets_141 rfl ?_
          refine lv_iinc (v := y5 + 1) (lv' := [(5, .int (y5 + 1)), (9, .int r18), (3, .long r17), (8, .int r16), (7, .int r14), (6, .int r12), (0, .ref (q 0 99)), (1, .int z1), (2, .int z2)]) hx hb dX4_sheets_142 hl (k := 8) rfl rfl (by decide) rfl (fun ls hl => ?_)
          refine lv_goto (tgt := 44) hx hb dX4_sheets_145 (by decide) ?_
          exact ih _ _ _ h _ _ hP hD hS ls (lv_sub hl [6, 7, 8, 2, 0] rfl)
  refine lv_iload_n hx hb dX4_sheets_0 rfl (lv_at hl 1 rfl) ?_
  refine lv_iconst (v := 0) hx hb dX4_sheets_1 (by decide) ?_
  refine ki_X4_231 hx hb hT hown dX4_sheets_2 ?_
  refine cl_Si (rn_S (rest := []) hx hb hml hown hT hl.1 ck_X4_51 (c_X4_within l x1 0 999999 _ h) ⟨rfl, rfl, (Nat.le_of_ble_eq_true rfl), (Nat.le_of_ble_eq_true rfl)⟩ ⟨Nat.zero_le _, Nat.zero_le _⟩ rfl rfl (Nat.le_of_ble_eq_true rfl) dX4_sheets_4) (fun r1 h => ?_)
  refine lv_if_eq (tgt := 20) hx hb dX4_sheets_7 (by decide) (fun ct => ?_) (fun ct => ?_)
  · have h := h.1 ct
    refine lv_aload_n hx hb dX4_sheets_20 rfl (lv_at hl 0 rfl) ?_
    refine lv_bipush (v := (-2)) hx hb dX4_sheets_21 (by decide) ?_
    refine wi_allP (rn_V (rest := []) (ci := 2) hx hb hml hown hT hl.1 hC hS hP hD 0 rfl rfl rfl ck_X4_55 (c_X4_refuseBad l G cs ts q H.size N D X PM PL (-2) _ h) ⟨rfl, rfl, (Nat.le_of_ble_eq_true rfl), (Nat.le_of_ble_eq_true rfl)⟩ ⟨Nat.le_refl _, Nat.le_refl _⟩ rfl rfl (Nat.le_of_ble_eq_true rfl) dX4_sheets_23) hD hS hA (fun r2 N3 D4 X5 PM6 PL7 H locs hP hD hS h => ?_)
    exact rt_Wi hx hb hr hlk dX4_sheets_26 (N3, D4, X5, PM6, PL7) hP hD hS h
  · have h := h.2 ct
    refine lv_iload_n hx hb dX4_sheets_10 rfl (lv_at hl 2 rfl) ?_
    refine lv_iconst (v := 0) hx hb dX4_sheets_11 (by decide) ?_
    refine lv_bipush (v := 30) hx hb dX4_sheets_12 (by decide) ?_
    refine cl_Si (rn_S (rest := []) hx hb hml hown hT hl.1 ck_X4_51 (c_X4_within l x2 0 30 _ h) ⟨rfl, rfl, (Nat.le_of_ble_eq_true rfl), (Nat.le_of_ble_eq_true rfl)⟩ ⟨Nat.zero_le _, Nat.zero_le _⟩ rfl rfl (Nat.le_of_ble_eq_true rfl) dX4_sheets_14) (fun r8 h => ?_)
    refine lv_if_ne (tgt := 27) hx hb dX4_sheets_17 (by decide) (fun ct => ?_) (fun ct => ?_)
    · have h := h.1 ct
      refine lv_aload_n hx hb dX4_sheets_27 rfl (lv_at hl 0 rfl) ?_
      refine gf_X4_16 hx hb hT hown hK hP 0 rfl rfl dX4_sheets_28 ?_
      refine lv_aload_n hx hb dX4_sheets_31 rfl (lv_at hl 0 rfl) ?_
      refine gf_X4_10 hx hb hT hown hK hP 0 rfl rfl dX4_sheets_32 ?_
      refine wv_part (wr := List.filterMap (fun i : Nat => (pW q cs N D X PM PL)[i]?) [0, 17, 18, 19, 20]) (w2 := fun u => (pW q cs N u X PM PL)) [9, 10, 11, 12, 13, 14, 15, 16, 1, 2, 3, 4, 5, 6, 7, 8] [0, 17, 18, 19, 20] [0, 13, 14, 15, 16, 17, 18, 19, 20, 5, 6, 7, 8, 9, 10, 11, 12, 1, 2, 3, 4] (rn_VN (rest := []) (ci := 0) (wc := (ttW (q 2) (q 1) cs D N)) hx hb hml hown hT hl.1 hC hS (hP.sub [9, 10, 11, 12, 13, 14, 15, 16, 1, 2, 3, 4, 5, 6, 7, 8] rfl) (hD.sub [9, 10, 11, 12, 13, 14, 15, 16, 1, 2, 3, 4, 5, 6, 7, 8] (by decide) rfl) 0 rfl rfl rfl ck_X4_132 (c_X2_takeOverPrints l G cs ts (q 2) (q 1) H.size D N  _ h) ⟨rfl, rfl, (Nat.le_of_ble_eq_true rfl), (Nat.le_of_ble_eq_true rfl)⟩ ⟨Nat.le_refl _, Nat.le_refl _⟩ rfl rfl (Nat.le_of_ble_eq_true rfl) dX4_sheets_35) hP hD hS hA rfl rfl rfl (by decide) rfl (fun _ => rfl) (fun D9 H locs hP hD hS h => ?_)
      refine lv_iload_n hx hb dX4_sheets_38 rfl (lv_at hl 1 rfl) ?_
      refine lv_i2l (v := x1.toInt64) hx hb dX4_sheets_39 rfl ?_
      refine lv_topl (fun v10 ev10 => ?_)
      have h := h v10 ev10
      refine lv_lstore_n (lv' := [(3, .long v10), (0, .ref (q 0 99)), (1, .int x1), (2, .int x2)]) hx hb dX4_sheets_40 rfl hl (by decide) rfl (fun ls hl => ?_)
      refine lv_iconst (v := 0) hx hb dX4_sheets_41 (by decide) ?_
      refine lv_istore (lv' := [(5, .int 0), (3, .long v10), (0, .ref (q 0 99)), (1, .int x1), (2, .int x2)]) hx hb dX4_sheets_42 hl (by decide) rfl (fun ls hl => ?_)
      obtain ⟨n29, h⟩ := h
      refine HL44 _ _ _ _ _ _ _ (fun D24 v25 v26 h H locs hP hD hS ls hl => ?_) n29 _ _ _ h _ _ hP hD hS ls (lv_sub hl [2, 3, 4, 1, 0] rfl)
      refine lv_aload_n hx hb dX4_sheets_148 rfl (lv_at hl 0 rfl) ?_
      refine gf_X4_16 hx hb hT hown hK hP 0 rfl rfl dX4_sheets_149 ?_
      refine wi_part (wr := List.filterMap (fun i : Nat => (pW q cs N D24 X PM PL)[i]?) [0, 1, 2, 3, 4, 5, 6, 7, 8, 17, 18, 19, 20]) (w2 := fun u => (pW q cs N u X PM PL)) [9, 10, 11, 12, 13, 14, 15, 16] [0, 1, 2, 3, 4, 5, 6, 7, 8, 17, 18, 19, 20] [0, 1, 2, 3, 4, 5, 6, 7, 8, 13, 14, 15, 16, 17, 18, 19, 20, 9, 10, 11, 12] (rn_VN (rest := []) (ci := 0) (wc := (tbW (q 2) cs D24)) hx hb hml hown hT hl.1 hC hS (hP.sub [9, 10, 11, 12, 13, 14, 15, 16] rfl) (hD.sub [9, 10, 11, 12, 13, 14, 15, 16] (by decide) rfl) 0 rfl rfl rfl ck_X4_240 (c_X2_darknessInAll l G cs ts (q 2) H.size D24  _ h) ⟨rfl, rfl, (Nat.le_of_ble_eq_true rfl), (Nat.le_of_ble_eq_true rfl)⟩ ⟨Nat.le_refl _, Nat.le_refl _⟩ rfl rfl (Nat.le_of_ble_eq_true rfl) dX4_sheets_152) hP hD hS hA rfl rfl rfl (by decide) rfl (fun _ => rfl) (fun r27 D28 H locs hP hD hS h => ?_)
      exact rt_Wi hx hb hr hlk dX4_sheets_155 (N, D28, X, PM, PL) hP hD hS h
    · have h := h.2 ct
      refine lv_aload_n hx hb dX4_sheets_20 rfl (lv_at hl 0 rfl) ?_
      refine lv_bipush (v := (-2)) hx hb dX4_sheets_21 (by decide) ?_
      refine wi_allP (rn_V (rest := []) (ci := 2) hx hb hml hown hT hl.1 hC hS hP hD 0 rfl rfl rfl ck_X4_55 (c_X4_refuseBad l G cs ts q H.size N D X PM PL (-2) _ h) ⟨rfl, rfl, (Nat.le_of_ble_eq_true rfl), (Nat.le_of_ble_eq_true rfl)⟩ ⟨Nat.le_refl _, Nat.le_refl _⟩ rfl rfl (Nat.le_of_ble_eq_true rfl) dX4_sheets_23) hD hS hA (fun r30 N31 D32 X33 PM34 PL35 H locs hP hD hS h => ?_)
      exact rt_Wi hx hb hr hlk dX4_sheets_26 (N31, D32, X33, PM34, PL35) hP hD hS h
abbrev rm_X4_part : Room := { frames := 1, cells := 0, slots := 0, locals := 22 }
set_option maxRecDepth 100000 in
set_option maxHeartbeats 4000000 in
theorem c_X4_part (l : Launch) (G : va_G) (cs ts : Nat → Nat) (q : Nat → Nat → Nat) (sz : Nat)  (N : ZI) (D : ZI) (X : ZI) (PM : ZI) (PL : ZL)   (x1 : Int32) (post : Int64 → ZI → ZI → ZI → ZI → ZL → Prop) (h : w_X4_part N D X PM PL x1 post) : Met l yX4_part [.code yX4_part cX4_part 2 (some .long)] rm_X4_part (va_Pc [.ref (q 0 99), .int x1] (CP G cs ts (pW q cs N D X PM PL) sz)) (va_Ql (fun (r : Int64) (u : ZI × ZI × ZI × ZI × ZL) => post r u.1 u.2.1 u.2.2.1 u.2.2.2.1 u.2.2.2.2) (CB G (va_A (pW q cs N D X PM PL) sz) (fun u => (pW q cs u.1 u.2.1 u.2.2.1 u.2.2.2.1 u.2.2.2.2))) (va_A (pW q cs N D X PM PL) sz)) 0 0 (va_A (pW q cs N D X PM PL) sz) := by
  refine ax_W (Qc := fun A => va_Ql (fun (r : Int64) (u : ZI × ZI × ZI × ZI × ZL) => post r u.1 u.2.1 u.2.2.1 u.2.2.2.1 u.2.2.2.2) (CB G A (fun u => (pW q cs u.1 u.2.1 u.2.2.1 u.2.2.2.1 u.2.2.2.2))) A) (by decide) (Nat.le_of_ble_eq_true rfl) sz ?_
  intro p e s m args below meth c A hx hb hr hlk hml hown hT hC hnm H locs hP hD hS ls hl
  have hK := hC.2.1
  have hA := hC.2.2
  have hl : lv_has ls 2 [(0, .ref (q 0 99)), (1, .int x1)] := hl
  unfold w_X4_part at h
  refine lv_iload_n hx hb dX4_part_0 rfl (lv_at hl 1 rfl) ?_
  refine lv_iconst (v := 0) hx hb dX4_part_1 (by decide) ?_
  refine lv_iconst (v := 1) hx hb dX4_part_2 (by decide) ?_
  refine cl_Si (rn_S (rest := []) hx hb hml hown hT hl.1 ck_X4_51 (c_X4_within l x1 0 1 _ h) ⟨rfl, rfl, (Nat.le_of_ble_eq_true rfl), (Nat.le_of_ble_eq_true rfl)⟩ ⟨Nat.zero_le _, Nat.zero_le _⟩ rfl rfl (Nat.le_of_ble_eq_true rfl) dX4_part_3) (fun r1 h => ?_)
  refine lv_if_ne (tgt := 17) hx hb dX4_part_6 (by decide) (fun ct => ?_) (fun ct => ?_)
  · have h := h.1 ct
    refine lv_iload_n hx hb dX4_part_17 rfl (lv_at hl 1 rfl) ?_
    refine lv_if_ne (tgt := 28) hx hb dX4_part_18 (by decide) (fun ct => ?_) (fun ct => ?_)
    · have h := h.1 ct
      refine lv_aload_n hx hb dX4_part_28 rfl (lv_at hl 0 rfl) ?_
      refine gf_X4_38 hx hb hT hown hK hP 0 rfl rfl dX4_part_29 ?_
      exact rt_Wl hx hb hr hlk dX4_part_32 (N, D, X, PM, PL) hP hD hS h
    · have h := h.2 ct
      refine lv_aload_n hx hb dX4_part_21 rfl (lv_at hl 0 rfl) ?_
      refine gf_X4_34 hx hb hT hown hK hP 0 rfl rfl dX4_part_22 ?_
      refine lv_goto (tgt := 32) hx hb dX4_part_25 (by decide) ?_
      exact rt_Wl hx hb hr hlk dX4_part_32 (N, D, X, PM, PL) hP hD hS h
  · have h := h.2 ct
    refine lv_aload_n hx hb dX4_part_9 rfl (lv_at hl 0 rfl) ?_
    refine lv_bipush (v := (-2)) hx hb dX4_part_10 (by decide) ?_
    refine wi_allP (rn_V (rest := []) (ci := 2) hx hb hml hown hT hl.1 hC hS hP hD 0 rfl rfl rfl ck_X4_55 (c_X4_refuseBad l G cs ts q H.size N D X PM PL (-2) _ h) ⟨rfl, rfl, (Nat.le_of_ble_eq_true rfl), (Nat.le_of_ble_eq_true rfl)⟩ ⟨Nat.le_refl _, Nat.le_refl _⟩ rfl rfl (Nat.le_of_ble_eq_true rfl) dX4_part_12) hD hS hA (fun r2 N3 D4 X5 PM6 PL7 H locs hP hD hS h => ?_)
    refine lv_i2l (v := r2.toInt64) hx hb dX4_part_15 rfl ?_
    exact rt_Wl hx hb hr hlk dX4_part_16 (N3, D4, X5, PM6, PL7) hP hD hS h
abbrev rm_X4_status : Room := { frames := 1, cells := 0, slots := 0, locals := 21 }
set_option maxRecDepth 100000 in
set_option maxHeartbeats 4000000 in
theorem c_X4_status (l : Launch) (G : va_G) (cs ts : Nat → Nat) (q : Nat → Nat → Nat) (sz : Nat)  (N : ZI) (D : ZI) (X : ZI) (PM : ZI) (PL : ZL)   (x1 : Int32) (post : Int32 → ZI → ZI → ZI → ZI → ZL → Prop) (h : w_X4_status N D X PM PL x1 post) : Met l yX4_status [.code yX4_status cX4_status 2 (some .int)] rm_X4_status (va_Pc [.ref (q 0 99), .int x1] (CP G cs ts (pW q cs N D X PM PL) sz)) (va_Qi (fun (r : Int32) (u : ZI × ZI × ZI × ZI × ZL) => post r u.1 u.2.1 u.2.2.1 u.2.2.2.1 u.2.2.2.2) (CB G (va_A (pW q cs N D X PM PL) sz) (fun u => (pW q cs u.1 u.2.1 u.2.2.1 u.2.2.2.1 u.2.2.2.2))) (va_A (pW q cs N D X PM PL) sz)) 0 0 (va_A (pW q cs N D X PM PL) sz) := by
  refine ax_W (Qc := fun A => va_Qi (fun (r : Int32) (u : ZI × ZI × ZI × ZI × ZL) => post r u.1 u.2.1 u.2.2.1 u.2.2.2.1 u.2.2.2.2) (CB G A (fun u => (pW q cs u.1 u.2.1 u.2.2.1 u.2.2.2.1 u.2.2.2.2))) A) (by decide) (Nat.le_of_ble_eq_true rfl) sz ?_
  intro p e s m args below meth c A hx hb hr hlk hml hown hT hC hnm H locs hP hD hS ls hl
  have hK := hC.2.1
  have hA := hC.2.2
  have hl : lv_has ls 2 [(0, .ref (q 0 99)), (1, .int x1)] := hl
  unfold w_X4_status at h
  refine lv_iload_n hx hb dX4_status_0 rfl (lv_at hl 1 rfl) ?_
  by_cases c0 : x1 = 0
  · have h := h.1 c0
    refine lv_tableIn (tgt := 28) (off := 27) hx hb dX4_status_1 (by rw [c0]; decide) (by rw [c0]; decide) (by rw [c0]; decide) (by decide) ?_
    refine lv_aload_n hx hb dX4_status_28 rfl (lv_at hl 0 rfl) ?_
    refine gf_X4_41 hx hb hT hown hK hP 0 rfl rfl dX4_status_29 ?_
    exact rt_Wi hx hb hr hlk dX4_status_32 (N, D, X, PM, PL) hP hD hS h
  · have h := h.2 c0
    by_cases c1 : x1 = 1
    · have h := h.1 c1
      refine lv_tableIn (tgt := 33) (off := 32) hx hb dX4_status_1 (by rw [c1]; decide) (by rw [c1]; decide) (by rw [c1]; decide) (by decide) ?_
      refine lv_aload_n hx hb dX4_status_33 rfl (lv_at hl 0 rfl) ?_
      refine gf_X4_45 hx hb hT hown hK hP 0 rfl rfl dX4_status_34 ?_
      exact rt_Wi hx hb hr hlk dX4_status_37 (N, D, X, PM, PL) hP hD hS h
    · have h := h.2 c1
      by_cases c2 : x1 = 2
      · have h := h.1 c2
        refine lv_tableIn (tgt := 38) (off := 37) hx hb dX4_status_1 (by rw [c2]; decide) (by rw [c2]; decide) (by rw [c2]; decide) (by decide) ?_
        refine lv_aload_n hx hb dX4_status_38 rfl (lv_at hl 0 rfl) ?_
        refine gf_X4_48 hx hb hT hown hK hP 0 rfl rfl dX4_status_39 ?_
        exact rt_Wi hx hb hr hlk dX4_status_42 (N, D, X, PM, PL) hP hD hS h
      · have h := h.2 c2
        have cn0 := lv_neT c0 (a := 0) (by decide)
        have cn1 := lv_neT c1 (a := 1) (by decide)
        have cn2 := lv_neT c2 (a := 2) (by decide)
        refine lv_tableOut (tgt := 43) hx hb dX4_status_1 (by omega) (by decide) ?_
        refine lv_aload_n hx hb dX4_status_43 rfl (lv_at hl 0 rfl) ?_
        refine lv_iconst (v := (-1)) hx hb dX4_status_44 (by decide) ?_
        refine wi_allP (rn_V (rest := []) (ci := 2) hx hb hml hown hT hl.1 hC hS hP hD 0 rfl rfl rfl ck_X4_55 (c_X4_refuseBad l G cs ts q H.size N D X PM PL (-1) _ h) ⟨rfl, rfl, (Nat.le_of_ble_eq_true rfl), (Nat.le_of_ble_eq_true rfl)⟩ ⟨Nat.le_refl _, Nat.le_refl _⟩ rfl rfl (Nat.le_of_ble_eq_true rfl) dX4_status_45) hD hS hA (fun r1 N2 D3 X4 PM5 PL6 H locs hP hD hS h => ?_)
        exact rt_Wi hx hb hr hlk dX4_status_48 (N2, D3, X4, PM5, PL6) hP hD hS h
abbrev rm_X4_howMany : Room := { frames := 1, cells := 0, slots := 0, locals := 23 }
set_option maxRecDepth 100000 in
set_option maxHeartbeats 4000000 in
theorem c_X4_howMany (l : Launch) (G : va_G) (cs ts : Nat → Nat) (q : Nat → Nat → Nat) (sz : Nat)  (N : ZI) (D : ZI) (X : ZI) (PM : ZI) (PL : ZL)   (x1 : Int32) (post : Int32 → ZI → ZI → ZI → ZI → ZL → Prop) (h : w_X4_howMany N D X PM PL x1 post) : Met l yX4_howMany [.code yX4_howMany cX4_howMany 2 (some .int)] rm_X4_howMany (va_Pc [.ref (q 0 99), .int x1] (CP G cs ts (pW q cs N D X PM PL) sz)) (va_Qi (fun (r : Int32) (u : ZI × ZI × ZI × ZI × ZL) => post r u.1 u.2.1 u.2.2.1 u.2.2.2.1 u.2.2.2.2) (CB G (va_A (pW q cs N D X PM PL) sz) (fun u => (pW q cs u.1 u.2.1 u.2.2.1 u.2.2.2.1 u.2.2.2.2))) (va_A (pW q cs N D X PM PL) sz)) 0 0 (va_A (pW q cs N D X PM PL) sz) := by
  refine ax_W (Qc := fun A => va_Qi (fun (r : Int32) (u : ZI × ZI × ZI × ZI × ZL) => post r u.1 u.2.1 u.2.2.1 u.2.2.2.1 u.2.2.2.2) (CB G A (fun u => (pW q cs u.1 u.2.1 u.2.2.1 u.2.2.2.1 u.2.2.2.2))) A) (by decide) (Nat.le_of_ble_eq_true rfl) sz ?_
  intro p e s m args below meth c A hx hb hr hlk hml hown hT hC hnm H locs hP hD hS ls hl
  have hK := hC.2.1
  have hA := hC.2.2
  have hl : lv_has ls 2 [(0, .ref (q 0 99)), (1, .int x1)] := hl
  unfold w_X4_howMany at h
  refine lv_iload_n hx hb dX4_howMany_0 rfl (lv_at hl 1 rfl) ?_
  by_cases c0 : x1 = 0
  · have h := h.1 c0
    refine lv_tableIn (tgt := 36) (off := 35) hx hb dX4_howMany_1 (by rw [c0]; decide) (by rw [c0]; decide) (by rw [c0]; decide) (by decide) ?_
    refine lv_aload_n hx hb dX4_howMany_36 rfl (lv_at hl 0 rfl) ?_
    refine gf_X4_10 hx hb hT hown hK hP 0 rfl rfl dX4_howMany_37 ?_
    refine wl_part (wr := List.filterMap (fun i : Nat => (pW q cs N D X PM PL)[i]?) [0, 9, 10, 11, 12, 13, 14, 15, 16, 17, 18, 19, 20]) (w2 := fun u => (pW q cs u D X PM PL)) [1, 2, 3, 4, 5, 6, 7, 8] [0, 9, 10, 11, 12, 13, 14, 15, 16, 17, 18, 19, 20] [0, 13, 14, 15, 16, 17, 18, 19, 20, 1, 2, 3, 4, 5, 6, 7, 8, 9, 10, 11, 12] (rn_VN (rest := []) (ci := 0) (wc := (tbW (q 1) cs N)) hx hb hml hown hT hl.1 hC hS (hP.sub [1, 2, 3, 4, 5, 6, 7, 8] rfl) (hD.sub [1, 2, 3, 4, 5, 6, 7, 8] (by decide) rfl) 0 rfl rfl rfl ck_X4_59 (c_X2_darkCells l G cs ts (q 1) H.size N  _ h) ⟨rfl, rfl, (Nat.le_of_ble_eq_true rfl), (Nat.le_of_ble_eq_true rfl)⟩ ⟨Nat.le_refl _, Nat.le_refl _⟩ rfl rfl (Nat.le_of_ble_eq_true rfl) dX4_howMany_40) hP hD hS hA rfl rfl rfl (by decide) rfl (fun _ => rfl) (fun r1 N2 H locs hP hD hS h => ?_)
    refine cl_Si (rn_S (rest := []) hx hb hml hown hT hl.1 ck_X4_63 (c_J13_bitCount_95d88 l r1 _ h) ⟨rfl, rfl, (Nat.le_of_ble_eq_true rfl), (Nat.le_of_ble_eq_true rfl)⟩ ⟨Nat.zero_le _, Nat.zero_le _⟩ rfl rfl (Nat.le_of_ble_eq_true rfl) dX4_howMany_43) (fun r3 h => ?_)
    exact rt_Wi hx hb hr hlk dX4_howMany_46 (N2, D, X, PM, PL) hP hD hS h
  · have h := h.2 c0
    by_cases c1 : x1 = 1
    · have h := h.1 c1
      refine lv_tableIn (tgt := 47) (off := 46) hx hb dX4_howMany_1 (by rw [c1]; decide) (by rw [c1]; decide) (by rw [c1]; decide) (by decide) ?_
      refine lv_aload_n hx hb dX4_howMany_47 rfl (lv_at hl 0 rfl) ?_
      refine gf_X4_10 hx hb hT hown hK hP 0 rfl rfl dX4_howMany_48 ?_
      refine gf_X4_81 hx hb hT hown hK hP 1 rfl rfl dX4_howMany_51 ?_
      exact rt_Wi hx hb hr hlk dX4_howMany_54 (N, D, X, PM, PL) hP hD hS h
    · have h := h.2 c1
      by_cases c2 : x1 = 2
      · have h := h.1 c2
        refine lv_tableIn (tgt := 55) (off := 54) hx hb dX4_howMany_1 (by rw [c2]; decide) (by rw [c2]; decide) (by rw [c2]; decide) (by decide) ?_
        refine lv_aload_n hx hb dX4_howMany_55 rfl (lv_at hl 0 rfl) ?_
        refine gf_X4_10 hx hb hT hown hK hP 0 rfl rfl dX4_howMany_56 ?_
        refine gf_X4_166 hx hb hT hown hK hP 1 rfl rfl dX4_howMany_59 ?_
        exact rt_Wi hx hb hr hlk dX4_howMany_62 (N, D, X, PM, PL) hP hD hS h
      · have h := h.2 c2
        by_cases c3 : x1 = 3
        · have h := h.1 c3
          refine lv_tableIn (tgt := 63) (off := 62) hx hb dX4_howMany_1 (by rw [c3]; decide) (by rw [c3]; decide) (by rw [c3]; decide) (by decide) ?_
          refine lv_aload_n hx hb dX4_howMany_63 rfl (lv_at hl 0 rfl) ?_
          refine gf_X4_10 hx hb hT hown hK hP 0 rfl rfl dX4_howMany_64 ?_
          refine gf_X4_184 hx hb hT hown hK hP 1 rfl rfl dX4_howMany_67 ?_
          exact rt_Wi hx hb hr hlk dX4_howMany_70 (N, D, X, PM, PL) hP hD hS h
        · have h := h.2 c3
          by_cases c4 : x1 = 4
          · have h := h.1 c4
            refine lv_tableIn (tgt := 71) (off := 70) hx hb dX4_howMany_1 (by rw [c4]; decide) (by rw [c4]; decide) (by rw [c4]; decide) (by decide) ?_
            refine lv_aload_n hx hb dX4_howMany_71 rfl (lv_at hl 0 rfl) ?_
            refine gf_X4_10 hx hb hT hown hK hP 0 rfl rfl dX4_howMany_72 ?_
            refine gf_X4_78 hx hb hT hown hK hP 1 rfl rfl dX4_howMany_75 ?_
            exact rt_Wi hx hb hr hlk dX4_howMany_78 (N, D, X, PM, PL) hP hD hS h
          · have h := h.2 c4
            have cn0 := lv_neT c0 (a := 0) (by decide)
            have cn1 := lv_neT c1 (a := 1) (by decide)
            have cn2 := lv_neT c2 (a := 2) (by decide)
            have cn3 := lv_neT c3 (a := 3) (by decide)
            have cn4 := lv_neT c4 (a := 4) (by decide)
            refine lv_tableOut (tgt := 79) hx hb dX4_howMany_1 (by omega) (by decide) ?_
            refine lv_aload_n hx hb dX4_howMany_79 rfl (lv_at hl 0 rfl) ?_
            refine gf_X4_26 hx hb hT hown hK hP 0 rfl rfl dX4_howMany_80 ?_
            refine gf_X4_102 hx hb hT hown hK hP 17 rfl rfl dX4_howMany_83 ?_
            exact rt_Wi hx hb hr hlk dX4_howMany_86 (N, D, X, PM, PL) hP hD hS h
abbrev rm_X4_count : Room := { frames := 2, cells := 0, slots := 0, locals := 44 }
set_option maxRecDepth 100000 in
set_option maxHeartbeats 4000000 in
theorem c_X4_count (l : Launch) (G : va_G) (cs ts : Nat → Nat) (q : Nat → Nat → Nat) (sz : Nat)  (N : ZI) (D : ZI) (X : ZI) (PM : ZI) (PL : ZL)   (x1 : Int32) (post : Int32 → ZI → ZI → ZI → ZI → ZL → Prop) (h : w_X4_count N D X PM PL x1 post) : Met l yX4_count [.code yX4_count cX4_count 2 (some .int)] rm_X4_count (va_Pc [.ref (q 0 99), .int x1] (CP G cs ts (pW q cs N D X PM PL) sz)) (va_Qi (fun (r : Int32) (u : ZI × ZI × ZI × ZI × ZL) => post r u.1 u.2.1 u.2.2.1 u.2.2.2.1 u.2.2.2.2) (CB G (va_A (pW q cs N D X PM PL) sz) (fun u => (pW q cs u.1 u.2.1 u.2.2.1 u.2.2.2.1 u.2.2.2.2))) (va_A (pW q cs N D X PM PL) sz)) 0 0 (va_A (pW q cs N D X PM PL) sz) := by
  refine ax_W (Qc := fun A => va_Qi (fun (r : Int32) (u : ZI × ZI × ZI × ZI × ZL) => post r u.1 u.2.1 u.2.2.1 u.2.2.2.1 u.2.2.2.2) (CB G A (fun u => (pW q cs u.1 u.2.1 u.2.2.1 u.2.2.2.1 u.2.2.2.2))) A) (by decide) (Nat.le_of_ble_eq_true rfl) sz ?_
  intro p e s m args below meth c A hx hb hr hlk hml hown hT hC hnm H locs hP hD hS ls hl
  have hK := hC.2.1
  have hA := hC.2.2
  have hl : lv_has ls 2 [(0, .ref (q 0 99)), (1, .int x1)] := hl
  unfold w_X4_count at h
  refine lv_iload_n hx hb dX4_count_0 rfl (lv_at hl 1 rfl) ?_
  refine lv_iconst (v := 0) hx hb dX4_count_1 (by decide) ?_
  refine lv_iconst (v := 5) hx hb dX4_count_2 (by decide) ?_
  refine cl_Si (rn_S (rest := []) hx hb hml hown hT hl.1 ck_X4_51 (c_X4_within l x1 0 5 _ h) ⟨rfl, rfl, (Nat.le_of_ble_eq_true rfl), (Nat.le_of_ble_eq_true rfl)⟩ ⟨Nat.zero_le _, Nat.zero_le _⟩ rfl rfl (Nat.le_of_ble_eq_true rfl) dX4_count_3) (fun r1 h => ?_)
  refine lv_if_ne (tgt := 16) hx hb dX4_count_6 (by decide) (fun ct => ?_) (fun ct => ?_)
  · have h := h.1 ct
    refine lv_aload_n hx hb dX4_count_16 rfl (lv_at hl 0 rfl) ?_
    refine lv_iload_n hx hb dX4_count_17 rfl (lv_at hl 1 rfl) ?_
    refine wi_allP (rn_V (rest := []) (ci := 2) hx hb hml hown hT hl.1 hC hS hP hD 0 rfl rfl rfl ck_X4_243 (c_X4_howMany l G cs ts q H.size N D X PM PL x1 _ h) ⟨rfl, rfl, (Nat.le_of_ble_eq_true rfl), (Nat.le_of_ble_eq_true rfl)⟩ ⟨Nat.le_refl _, Nat.le_refl _⟩ rfl rfl (Nat.le_of_ble_eq_true rfl) dX4_count_18) hD hS hA (fun r2 N3 D4 X5 PM6 PL7 H locs hP hD hS h => ?_)
    exact rt_Wi hx hb hr hlk dX4_count_21 (N3, D4, X5, PM6, PL7) hP hD hS h
  · have h := h.2 ct
    refine lv_aload_n hx hb dX4_count_9 rfl (lv_at hl 0 rfl) ?_
    refine lv_bipush (v := (-2)) hx hb dX4_count_10 (by decide) ?_
    refine wi_allP (rn_V (rest := []) (ci := 2) hx hb hml hown hT hl.1 hC hS hP hD 0 rfl rfl rfl ck_X4_55 (c_X4_refuseBad l G cs ts q H.size N D X PM PL (-2) _ h) ⟨rfl, rfl, (Nat.le_of_ble_eq_true rfl), (Nat.le_of_ble_eq_true rfl)⟩ ⟨Nat.le_refl _, Nat.le_refl _⟩ rfl rfl (Nat.le_of_ble_eq_true rfl) dX4_count_12) hD hS hA (fun r8 N9 D10 X11 PM12 PL13 H locs hP hD hS h => ?_)
    exact rt_Wi hx hb hr hlk dX4_count_15 (N9, D10, X11, PM12, PL13) hP hD hS h
abbrev rm_X4_digest : Room := { frames := 2, cells := 0, slots := 0, locals := 44 }
set_option maxRecDepth 100000 in
set_option maxHeartbeats 4000000 in
theorem c_X4_digest (l : Launch) (G : va_G) (cs ts : Nat → Nat) (q : Nat → Nat → Nat) (sz : Nat)  (N : ZI) (D : ZI) (X : ZI) (PM : ZI) (PL : ZL)    (post : Int64 → ZI → ZI → ZI → ZI → ZL → Prop) (h : w_X4_digest N D X PM PL post) : Met l yX4_digest [.code yX4_digest cX4_digest 4 (some .long)] rm_X4_digest (va_Pc [.ref (q 0 99)] (CP G cs ts (pW q cs N D X PM PL) sz)) (va_Ql (fun (r : Int64) (u : ZI × ZI × ZI × ZI × ZL) => post r u.1 u.2.1 u.2.2.1 u.2.2.2.1 u.2.2.2.2) (CB G (va_A (pW q cs N D X PM PL) sz) (fun u => (pW q cs u.1 u.2.1 u.2.2.1 u.2.2.2.1 u.2.2.2.2))) (va_A (pW q cs N D X PM PL) sz)) 0 0 (va_A (pW q cs N D X PM PL) sz) := by
  refine ax_W (Qc := fun A => va_Ql (fun (r : Int64) (u : ZI × ZI × ZI × ZI × ZL) => post r u.1 u.2.1 u.2.2.1 u.2.2.2.1 u.2.2.2.2) (CB G A (fun u => (pW q cs u.1 u.2.1 u.2.2.1 u.2.2.2.1 u.2.2.2.2))) A) (by decide) (Nat.le_of_ble_eq_true rfl) sz ?_
  intro p e s m args below meth c A hx hb hr hlk hml hown hT hC hnm H locs hP hD hS ls hl
  have hK := hC.2.1
  have hA := hC.2.2
  have hl : lv_has ls 4 [(0, .ref (q 0 99))] := hl
  unfold w_X4_digest at h
  have HL6 : ∀ (K : ZI → ZI → ZI → ZI → ZL → Int64 → Int32 → Prop), (∀ (Nv : ZI) (Dv : ZI) (Xv : ZI) (PMv : ZI) (PLv : ZL) (y1 : Int64) (y3 : Int32), K Nv Dv Xv PMv PLv y1 y3 → ∀ (H : Heap) (locs : List Loc), va_P G vwCl (pW q cs Nv Dv Xv PMv PLv) H → va_D A (pW q cs Nv Dv Xv PMv PLv) → va_S A s.heap H locs → ∀ ls : Array Slot, lv_has ls 4 [(0, .ref (q 0 99)), (1, .long y1), (3, .int y3)] → W p l e rm_X4_digest s m args below meth c H locs 0 0 (MQ below (va_Ql (fun (r : Int64) (u : ZI × ZI × ZI × ZI × ZL) => post r u.1 u.2.1 u.2.2.1 u.2.2.2.1 u.2.2.2.2) (CB G A (fun u => (pW q cs u.1 u.2.1 u.2.2.1 u.2.2.2.1 u.2.2.2.2))) A) args s 0 0 A) (F0 m 30 ls [])) → ∀ (n : Nat) (Nv : ZI) (Dv : ZI) (Xv : ZI) (PMv : ZI) (PLv : ZL) (y1 : Int64) (y3 : Int32), itF (w_X4_digest_L6  post K) (fun _ _ _ _ _ _ _ => False) n Nv Dv Xv PMv PLv y1 y3 → ∀ (H : Heap) (locs : List Loc), va_P G vwCl (pW q cs Nv Dv Xv PMv PLv) H → va_D A (pW q cs Nv Dv Xv PMv PLv) → va_S A s.heap H locs → ∀ ls : Array Slot, lv_has ls 4 [(0, .ref (q 0 99)), (1, .long y1), (3, .int y3)] → W p l e rm_X4_digest s m args below meth c H locs 0 0 (MQ below (va_Ql (fun (r : Int64) (u : ZI × ZI × ZI × ZI × ZL) => post r u.1 u.2.1 u.2.2.1 u.2.2.2.1 u.2.2.2.2) (CB G A (fun u => (pW q cs u.1 u.2.1 u.2.2.1 u.2.2.2.1 u.2.2.2.2))) A) args s 0 0 A) (F0 m 6 ls []) := by
    intro K hKK n
    induction n with
    | zero =>
      intro Nv Dv Xv PMv PLv y1 y3 h
      exact absurd h id
    | succ n ih =>
      intro Nv Dv Xv PMv PLv y1 y3 h H locs hP hD hS ls hl
      have h : w_X4_digest_L6  post K (itF (w_X4_digest_L6  post K) (fun _ _ _ _ _ _ _ => False) n) Nv Dv Xv PMv PLv y1 y3 := h
      generalize itF (w_X4_digest_L6  post K) (fun _ _ _ _ _ _ _ => False) n = rec at h ih
      unfold w_X4_digest_L6 at h
      refine lv_iload_n hx hb dX4_digest_6 rfl (lv_at hl 2 rfl) ?_
      refine lv_iconst (v := 5) hx hb dX4_digest_7 (by decide) ?_
      refine lv_icmp_gt (tgt := 30) hx hb dX4_digest_8 (by decide) (fun ct => ?_) (fun ct => ?_)
      · have h := h.1 ct
        exact hKK _ _ _ _ _ _ _ h _ _ hP hD hS ls (lv_sub hl [0, 1, 2] rfl)
      · have h := h.2 ct
        refine ki_X4_248 hx hb hT hown dX4_digest_11 ?_
        refine lv_lload_n hx hb dX4_digest_14 rfl (lv_at hl 1 rfl) ?_
        refine lv_lmul hx hb dX4_digest_15 ?_
        refine lv_aload_n hx hb dX4_digest_16 rfl (lv_at hl 0 rfl) ?_
        refine lv_iload_n hx hb dX4_digest_17 rfl (lv_at hl 2 rfl) ?_
        refine wi_allP (rn_V (rest := [.long (31 * y1)]) (ci := 2) hx hb hml hown hT hl.1 hC hS hP hD 0 rfl rfl rfl ck_X4_243 (c_X4_howMany l G cs ts q H.size Nv Dv Xv PMv PLv y3 _ h) ⟨rfl, rfl, (Nat.le_of_ble_eq_true rfl), (Nat.le_of_ble_eq_true rfl)⟩ ⟨Nat.le_refl _, Nat.le_refl _⟩ rfl rfl (Nat.le_of_ble_eq_true rfl) dX4_digest_18) hD hS hA (fun r1 N2 D3 X4 PM5 PL6 H locs hP hD hS h => ?_)
        refine lv_i2l (v := r1.toInt64) hx hb dX4_digest_21 rfl ?_
        refine lv_ladd hx hb dX4_digest_22 ?_
        refine lv_topl (fun v7 ev7 => ?_)
        have h := h v7 ev7
        refine lv_lstore_n (lv' := [(1, .long v7), (0, .ref (q 0 99)), (3, .int y3)]) hx hb dX4_digest_23 rfl hl (by decide) rfl (fun ls hl => ?_)
        refine lv_iinc (v := y3 + 1) (lv' := [(3, .int (y3 + 1)), (1, .long v7), (0, .ref (q 0 99))]) hx hb dX4_digest_24 hl (k := 2) rfl rfl (by decide) rfl (fun ls hl => ?_)
        refine lv_goto (tgt := 6) hx hb dX4_digest_27 (by decide) ?_
        exact ih _ _ _ _ _ _ _ h _ _ hP hD hS ls (lv_sub hl [2, 1, 0] rfl)
  have HL32 : ∀ (Nf : ZI) (Df : ZI) (Xf : ZI) (PMf : ZI) (PLf : ZL)  (K : Int64 → Int32 → Prop), (∀  (y1 : Int64) (y3 : Int32), K y1 y3 → ∀ (H : Heap) (locs : List Loc), va_P G vwCl (pW q cs Nf Df Xf PMf PLf) H → va_D A (pW q cs Nf Df Xf PMf PLf) → va_S A s.heap H locs → ∀ ls : Array Slot, lv_has ls 4 [(0, .ref (q 0 99)), (1, .long y1), (3, .int y3)] → W p l e rm_X4_digest s m args below meth c H locs 0 0 (MQ below (va_Ql (fun (r : Int64) (u : ZI × ZI × ZI × ZI × ZL) => post r u.1 u.2.1 u.2.2.1 u.2.2.2.1 u.2.2.2.2) (CB G A (fun u => (pW q cs u.1 u.2.1 u.2.2.1 u.2.2.2.1 u.2.2.2.2))) A) args s 0 0 A) (F0 m 60 ls [])) → ∀ (n : Nat)  (y1 : Int64) (y3 : Int32), itF (w_X4_digest_L32 Nf Df Xf PMf PLf post K) (fun _ _ => False) n y1 y3 → ∀ (H : Heap) (locs : List Loc), va_P G vwCl (pW q cs Nf Df Xf PMf PLf) H → va_D A (pW q cs Nf Df Xf PMf PLf) → va_S A s.heap H locs → ∀ ls : Array Slot, lv_has ls 4 [(0, .ref (q 0 99)), (1, .long y1), (3, .int y3)] → W p l e rm_X4_digest s m args below meth c H locs 0 0 (MQ below (va_Ql (fun (r : Int64) (u : ZI × ZI × ZI × ZI × ZL) => post r u.1 u.2.1 u.2.2.1 u.2.2.2.1 u.2.2.2.2) (CB G A (fun u => (pW q cs u.1 u.2.1 u.2.2.1 u.2.2.2.1 u.2.2.2.2))) A) args s 0 0 A) (F0 m 32 ls []) := by
    intro Nf Df Xf PMf PLf K hKK n
    induction n with
    | zero =>
      intro y1 y3 h
      exact absurd h id
    | succ n ih =>
      intro y1 y3 h H locs hP hD hS ls hl
      have h : w_X4_digest_L32 Nf Df Xf PMf PLf post K (itF (w_X4_digest_L32 Nf Df Xf PMf PLf post K) (fun _ _ => False) n) y1 y3 := h
      generalize itF (w_X4_digest_L32 Nf Df Xf PMf PLf post K) (fun _ _ => False) n = rec at h ih
      unfold w_X4_digest_L32 at h
      refine lv_iload_n hx hb dX4_digest_32 rfl (lv_at hl 2 rfl) ?_
      refine lv_iconst (v := 1) hx hb dX4_digest_33 (by decide) ?_
      refine lv_icmp_gt (tgt := 60) hx hb dX4_digest_34 (by decide) (fun ct => ?_) (fun ct => ?_)
      · have h := h.1 ct
        exact hKK _ _ h _ _ hP hD hS ls (lv_sub hl [0, 1, 2] rfl)
      · have h := h.2 ct
        refine ki_X4_248 hx hb hT hown dX4_digest_37 ?_
        refine lv_lload_n hx hb dX4_digest_40 rfl (lv_at hl 1 rfl) ?_
        refine lv_lmul hx hb dX4_digest_41 ?_
        refine lv_aload_n hx hb dX4_digest_42 rfl (lv_at hl 0 rfl) ?_
        refine gf_X4_10 hx hb hT hown hK hP 0 rfl rfl dX4_digest_43 ?_
        refine gf_X4_74 hx hb hT hown hK hP 1 rfl rfl dX4_digest_46 ?_
        refine lv_iload_n hx hb dX4_digest_49 rfl (lv_at hl 2 rfl) ?_
        obtain ⟨hi, h⟩ := h
        refine va_iald hx hb hK hP 2 0 rfl rfl hi dX4_digest_50 ?_
        refine lv_i2l (v := (Nf 0 y3.toNatClampNeg).toInt64) hx hb dX4_digest_51 rfl ?_
        refine lv_ladd hx hb dX4_digest_52 ?_
        refine lv_topl (fun v15 ev15 => ?_)
        have h := h v15 ev15
        refine lv_lstore_n (lv' := [(1, .long v15), (0, .ref (q 0 99)), (3, .int y3)]) hx hb dX4_digest_53 rfl hl (by decide) rfl (fun ls hl => ?_)
        refine lv_iinc (v := y3 + 1) (lv' := [(3, .int (y3 + 1)), (1, .long v15), (0, .ref (q 0 99))]) hx hb dX4_digest_54 hl (k := 2) rfl rfl (by decide) rfl (fun ls hl => ?_)
        refine lv_goto (tgt := 32) hx hb dX4_digest_57 (by decide) ?_
        exact ih _ _ h _ _ hP hD hS ls (lv_sub hl [2, 1, 0] rfl)
  have HL62 : ∀ (Nf : ZI) (Df : ZI) (Xf : ZI) (PMf : ZI) (PLf : ZL)  (K : Int64 → Int32 → Prop), (∀  (y1 : Int64) (y3 : Int32), K y1 y3 → ∀ (H : Heap) (locs : List Loc), va_P G vwCl (pW q cs Nf Df Xf PMf PLf) H → va_D A (pW q cs Nf Df Xf PMf PLf) → va_S A s.heap H locs → ∀ ls : Array Slot, lv_has ls 4 [(0, .ref (q 0 99)), (1, .long y1), (3, .int y3)] → W p l e rm_X4_digest s m args below meth c H locs 0 0 (MQ below (va_Ql (fun (r : Int64) (u : ZI × ZI × ZI × ZI × ZL) => post r u.1 u.2.1 u.2.2.1 u.2.2.2.1 u.2.2.2.2) (CB G A (fun u => (pW q cs u.1 u.2.1 u.2.2.1 u.2.2.2.1 u.2.2.2.2))) A) args s 0 0 A) (F0 m 91 ls [])) → ∀ (n : Nat)  (y1 : Int64) (y3 : Int32), itF (w_X4_digest_L62 Nf Df Xf PMf PLf post K) (fun _ _ => False) n y1 y3 → ∀ (H : Heap) (locs : List Loc), va_P G vwCl (pW q cs Nf Df Xf PMf PLf) H → va_D A (pW q cs Nf Df Xf PMf PLf) → va_S A s.heap H locs → ∀ ls : Array Slot, lv_has ls 4 [(0, .ref (q 0 99)), (1, .long y1), (3, .int y3)] → W p l e rm_X4_digest s m args below meth c H locs 0 0 (MQ below (va_Ql (fun (r : Int64) (u : ZI × ZI × ZI × ZI × ZL) => post r u.1 u.2.1 u.2.2.1 u.2.2.2.1 u.2.2.2.2) (CB G A (fun u => (pW q cs u.1 u.2.1 u.2.2.1 u.2.2.2.1 u.2.2.2.2))) A) args s 0 0 A) (F0 m 62 ls []) := by
    intro Nf Df Xf PMf PLf K hKK n
    induction n with
    | zero =>
      intro y1 y3 h
      exact absurd h id
    | succ n ih =>
      intro y1 y3 h H locs hP hD hS ls hl
      have h : w_X4_digest_L62 Nf Df Xf PMf PLf post K (itF (w_X4_digest_L62 Nf Df Xf PMf PLf post K) (fun _ _ => False) n) y1 y3 := h
      generalize itF (w_X4_digest_L62 Nf Df Xf PMf PLf post K) (fun _ _ => False) n = rec at h ih
      unfold w_X4_digest_L62 at h
      refine lv_iload_n hx hb dX4_digest_62 rfl (lv_at hl 2 rfl) ?_
      refine lv_bipush (v := 63) hx hb dX4_digest_63 (by decide) ?_
      refine lv_icmp_gt (tgt := 91) hx hb dX4_digest_65 (by decide) (fun ct => ?_) (fun ct => ?_)
      · have h := h.1 ct
        exact hKK _ _ h _ _ hP hD hS ls (lv_sub hl [0, 1, 2] rfl)
      · have h := h.2 ct
        refine ki_X4_248 hx hb hT hown dX4_digest_68 ?_
        refine lv_lload_n hx hb dX4_digest_71 rfl (lv_at hl 1 rfl) ?_
        refine lv_lmul hx hb dX4_digest_72 ?_
        refine lv_aload_n hx hb dX4_digest_73 rfl (lv_at hl 0 rfl) ?_
        refine gf_X4_10 hx hb hT hown hK hP 0 rfl rfl dX4_digest_74 ?_
        refine gf_X4_123 hx hb hT hown hK hP 1 rfl rfl dX4_digest_77 ?_
        refine lv_iload_n hx hb dX4_digest_80 rfl (lv_at hl 2 rfl) ?_
        obtain ⟨hi, h⟩ := h
        refine va_iald hx hb hK hP 3 0 rfl rfl hi dX4_digest_81 ?_
        refine lv_i2l (v := (Nf 1 y3.toNatClampNeg).toInt64) hx hb dX4_digest_82 rfl ?_
        refine lv_ladd hx hb dX4_digest_83 ?_
        refine lv_topl (fun v18 ev18 => ?_)
        have h := h v18 ev18
        refine lv_lstore_n (lv' := [(1, .long v18), (0, .ref (q 0 99)), (3, .int y3)]) hx hb dX4_digest_84 rfl hl (by decide) rfl (fun ls hl => ?_)
        refine lv_iinc (v := y3 + 1) (lv' := [(3, .int (y3 + 1)), (1, .long v18), (0, .ref (q 0 99))]) hx hb dX4_digest_85 hl (k := 2) rfl rfl (by decide) rfl (fun ls hl => ?_)
        refine lv_goto (tgt := 62) hx hb dX4_digest_88 (by decide) ?_
        exact ih _ _ h _ _ hP hD hS ls (lv_sub hl [2, 1, 0] rfl)
  have HL93 : ∀ (Nf : ZI) (Df : ZI) (Xf : ZI) (PMf : ZI) (PLf : ZL)  (K : Int64 → Int32 → Prop), (∀  (y1 : Int64) (y3 : Int32), K y1 y3 → ∀ (H : Heap) (locs : List Loc), va_P G vwCl (pW q cs Nf Df Xf PMf PLf) H → va_D A (pW q cs Nf Df Xf PMf PLf) → va_S A s.heap H locs → ∀ ls : Array Slot, lv_has ls 4 [(0, .ref (q 0 99)), (1, .long y1), (3, .int y3)] → W p l e rm_X4_digest s m args below meth c H locs 0 0 (MQ below (va_Ql (fun (r : Int64) (u : ZI × ZI × ZI × ZI × ZL) => post r u.1 u.2.1 u.2.2.1 u.2.2.2.1 u.2.2.2.2) (CB G A (fun u => (pW q cs u.1 u.2.1 u.2.2.1 u.2.2.2.1 u.2.2.2.2))) A) args s 0 0 A) (F0 m 127 ls [])) → ∀ (n : Nat)  (y1 : Int64) (y3 : Int32), itF (w_X4_digest_L93 Nf Df Xf PMf PLf post K) (fun _ _ => False) n y1 y3 → ∀ (H : Heap) (locs : List Loc), va_P G vwCl (pW q cs Nf Df Xf PMf PLf) H → va_D A (pW q cs Nf Df Xf PMf PLf) → va_S A s.heap H locs → ∀ ls : Array Slot, lv_has ls 4 [(0, .ref (q 0 99)), (1, .long y1), (3, .int y3)] → W p l e rm_X4_digest s m args below meth c H locs 0 0 (MQ below (va_Ql (fun (r : Int64) (u : ZI × ZI × ZI × ZI × ZL) => post r u.1 u.2.1 u.2.2.1 u.2.2.2.1 u.2.2.2.2) (CB G A (fun u => (pW q cs u.1 u.2.1 u.2.2.1 u.2.2.2.1 u.2.2.2.2))) A) args s 0 0 A) (F0 m 93 ls []) := by
    intro Nf Df Xf PMf PLf K hKK n
    induction n with
    | zero =>
      intro y1 y3 h
      exact absurd h id
    | succ n ih =>
      intro y1 y3 h H locs hP hD hS ls hl
      have h : w_X4_digest_L93 Nf Df Xf PMf PLf post K (itF (w_X4_digest_L93 Nf Df Xf PMf PLf post K) (fun _ _ => False) n) y1 y3 := h
      generalize itF (w_X4_digest_L93 Nf Df Xf PMf PLf post K) (fun _ _ => False) n = rec at h ih
      unfold w_X4_digest_L93 at h
      refine lv_iload_n hx hb dX4_digest_93 rfl (lv_at hl 2 rfl) ?_
      refine lv_aload_n hx hb dX4_digest_94 rfl (lv_at hl 0 rfl) ?_
      refine gf_X4_10 hx hb hT hown hK hP 0 rfl rfl dX4_digest_95 ?_
      refine gf_X4_166 hx hb hT hown hK hP 1 rfl rfl dX4_digest_98 ?_
      refine lv_icmp_ge (tgt := 127) hx hb dX4_digest_101 (by decide) (fun ct => ?_) (fun ct => ?_)
      · have h := h.1 ct
        exact hKK _ _ h _ _ hP hD hS ls (lv_sub hl [0, 1, 2] rfl)
      · have h := h.2 ct
        refine ki_X4_248 hx hb hT hown dX4_digest_104 ?_
        refine lv_lload_n hx hb dX4_digest_107 rfl (lv_at hl 1 rfl) ?_
        refine lv_lmul hx hb dX4_digest_108 ?_
        refine lv_aload_n hx hb dX4_digest_109 rfl (lv_at hl 0 rfl) ?_
        refine gf_X4_10 hx hb hT hown hK hP 0 rfl rfl dX4_digest_110 ?_
        refine gf_X4_169 hx hb hT hown hK hP 1 rfl rfl dX4_digest_113 ?_
        refine lv_iload_n hx hb dX4_digest_116 rfl (lv_at hl 2 rfl) ?_
        obtain ⟨hi, h⟩ := h
        refine va_iald hx hb hK hP 4 0 rfl rfl hi dX4_digest_117 ?_
        refine lv_i2l (v := (Nf 3 y3.toNatClampNeg).toInt64) hx hb dX4_digest_118 rfl ?_
        refine lv_ladd hx hb dX4_digest_119 ?_
        refine lv_topl (fun v21 ev21 => ?_)
        have h := h v21 ev21
        refine lv_lstore_n (lv' := [(1, .long v21), (0, .ref (q 0 99)), (3, .int y3)]) hx hb dX4_digest_120 rfl hl (by decide) rfl (fun ls hl => ?_)
        refine lv_iinc (v := y3 + 1) (lv' := [(3, .int (y3 + 1)), (1, .long v21), (0, .ref (q 0 99))]) hx hb dX4_digest_121 hl (k := 2) rfl rfl (by decide) rfl (fun ls hl => ?_)
        refine lv_goto (tgt := 93) hx hb dX4_digest_124 (by decide) ?_
        exact ih _ _ h _ _ hP hD hS ls (lv_sub hl [2, 1, 0] rfl)
  have HL129 : ∀ (Nf : ZI) (Df : ZI) (Xf : ZI) (PMf : ZI) (PLf : ZL)  (K : Int64 → Int32 → Prop), (∀  (y1 : Int64) (y3 : Int32), K y1 y3 → ∀ (H : Heap) (locs : List Loc), va_P G vwCl (pW q cs Nf Df Xf PMf PLf) H → va_D A (pW q cs Nf Df Xf PMf PLf) → va_S A s.heap H locs → ∀ ls : Array Slot, lv_has ls 4 [(0, .ref (q 0 99)), (1, .long y1), (3, .int y3)] → W p l e rm_X4_digest s m args below meth c H locs 0 0 (MQ below (va_Ql (fun (r : Int64) (u : ZI × ZI × ZI × ZI × ZL) => post r u.1 u.2.1 u.2.2.1 u.2.2.2.1 u.2.2.2.2) (CB G A (fun u => (pW q cs u.1 u.2.1 u.2.2.1 u.2.2.2.1 u.2.2.2.2))) A) args s 0 0 A) (F0 m 180 ls [])) → ∀ (n : Nat)  (y1 : Int64) (y3 : Int32), itF (w_X4_digest_L129 Nf Df Xf PMf PLf post K) (fun _ _ => False) n y1 y3 → ∀ (H : Heap) (locs : List Loc), va_P G vwCl (pW q cs Nf Df Xf PMf PLf) H → va_D A (pW q cs Nf Df Xf PMf PLf) → va_S A s.heap H locs → ∀ ls : Array Slot, lv_has ls 4 [(0, .ref (q 0 99)), (1, .long y1), (3, .int y3)] → W p l e rm_X4_digest s m args below meth c H locs 0 0 (MQ below (va_Ql (fun (r : Int64) (u : ZI × ZI × ZI × ZI × ZL) => post r u.1 u.2.1 u.2.2.1 u.2.2.2.1 u.2.2.2.2) (CB G A (fun u => (pW q cs u.1 u.2.1 u.2.2.1 u.2.2.2.1 u.2.2.2.2))) A) args s 0 0 A) (F0 m 129 ls []) := by
    intro Nf Df Xf PMf PLf K hKK n
    induction n with
    | zero =>
      intro y1 y3 h
      exact absurd h id
    | succ n ih =>
      intro y1 y3 h H locs hP hD hS ls hl
      have h : w_X4_digest_L129 Nf Df Xf PMf PLf post K (itF (w_X4_digest_L129 Nf Df Xf PMf PLf post K) (fun _ _ => False) n) y1 y3 := h
      generalize itF (w_X4_digest_L129 Nf Df Xf PMf PLf post K) (fun _ _ => False) n = rec at h ih
      unfold w_X4_digest_L129 at h
      refine lv_iload_n hx hb dX4_digest_129 rfl (lv_at hl 2 rfl) ?_
      refine lv_aload_n hx hb dX4_digest_130 rfl (lv_at hl 0 rfl) ?_
      refine gf_X4_10 hx hb hT hown hK hP 0 rfl rfl dX4_digest_131 ?_
      refine gf_X4_184 hx hb hT hown hK hP 1 rfl rfl dX4_digest_134 ?_
      refine lv_icmp_ge (tgt := 180) hx hb dX4_digest_137 (by decide) (fun ct => ?_) (fun ct => ?_)
      · have h := h.1 ct
        exact hKK _ _ h _ _ hP hD hS ls (lv_sub hl [0, 1, 2] rfl)
      · have h := h.2 ct
        refine ki_X4_248 hx hb hT hown dX4_digest_140 ?_
        refine lv_lload_n hx hb dX4_digest_143 rfl (lv_at hl 1 rfl) ?_
        refine lv_lmul hx hb dX4_digest_144 ?_
        refine lv_aload_n hx hb dX4_digest_145 rfl (lv_at hl 0 rfl) ?_
        refine gf_X4_10 hx hb hT hown hK hP 0 rfl rfl dX4_digest_146 ?_
        refine gf_X4_187 hx hb hT hown hK hP 1 rfl rfl dX4_digest_149 ?_
        refine lv_iload_n hx hb dX4_digest_152 rfl (lv_at hl 2 rfl) ?_
        obtain ⟨hi, h⟩ := h
        refine va_iald hx hb hK hP 5 0 rfl rfl hi dX4_digest_153 ?_
        refine lv_i2l (v := (Nf 5 y3.toNatClampNeg).toInt64) hx hb dX4_digest_154 rfl ?_
        refine lv_ladd hx hb dX4_digest_155 ?_
        refine lv_topl (fun v24 ev24 => ?_)
        have h := h v24 ev24
        refine lv_lstore_n (lv' := [(1, .long v24), (0, .ref (q 0 99)), (3, .int y3)]) hx hb dX4_digest_156 rfl hl (by decide) rfl (fun ls hl => ?_)
        refine ki_X4_248 hx hb hT hown dX4_digest_157 ?_
        refine lv_lload_n hx hb dX4_digest_160 rfl (lv_at hl 0 rfl) ?_
        refine lv_lmul hx hb dX4_digest_161 ?_
        refine lv_aload_n hx hb dX4_digest_162 rfl (lv_at hl 1 rfl) ?_
        refine gf_X4_10 hx hb hT hown hK hP 0 rfl rfl dX4_digest_163 ?_
        refine gf_X4_190 hx hb hT hown hK hP 1 rfl rfl dX4_digest_166 ?_
        refine lv_iload_n hx hb dX4_digest_169 rfl (lv_at hl 2 rfl) ?_
        obtain ⟨hi, h⟩ := h
        refine va_iald hx hb hK hP 6 0 rfl rfl hi dX4_digest_170 ?_
        refine lv_i2l (v := (Nf 6 y3.toNatClampNeg).toInt64) hx hb dX4_digest_171 rfl ?_
        refine lv_ladd hx hb dX4_digest_172 ?_
        refine lv_topl (fun v25 ev25 => ?_)
        have h := h v25 ev25
        refine lv_lstore_n (lv' := [(1, .long v25), (0, .ref (q 0 99)), (3, .int y3)]) hx hb dX4_digest_173 rfl hl (by decide) rfl (fun ls hl => ?_)
        refine lv_iinc (v := y3 + 1) (lv' := [(3, .int (y3 + 1)), (1, .long v25), (0, .ref (q 0 99))]) hx hb dX4_digest_174 hl (k := 2) rfl rfl (by decide) rfl (fun ls hl => ?_)
        refine lv_goto (tgt := 129) hx hb dX4_digest_177 (by decide) ?_
        exact ih _ _ h _ _ hP hD hS ls (lv_sub hl [2, 1, 0] rfl)
  refine ki_X4_246 hx hb hT hown dX4_digest_0 ?_
  refine lv_lstore_n (lv' := [(1, .long 1021), (0, .ref (q 0 99))]) hx hb dX4_digest_3 rfl hl (by decide) rfl (fun ls hl => ?_)
  refine lv_iconst (v := 0) hx hb dX4_digest_4 (by decide) ?_
  refine lv_istore_n (lv' := [(3, .int 0), (1, .long 1021), (0, .ref (q 0 99))]) hx hb dX4_digest_5 rfl hl (by decide) rfl (fun ls hl => ?_)
  obtain ⟨n33, h⟩ := h
  refine HL6  _ (fun N8 D9 X10 PM11 PL12 v13 v14 h H locs hP hD hS ls hl => ?_) n33 _ _ _ _ _ _ _ h _ _ hP hD hS ls (lv_sub hl [2, 1, 0] rfl)
  refine lv_iconst (v := 0) hx hb dX4_digest_30 (by decide) ?_
  refine lv_istore_n (lv' := [(3, .int 0), (0, .ref (q 0 99)), (1, .long v13)]) hx hb dX4_digest_31 rfl hl (by decide) rfl (fun ls hl => ?_)
  obtain ⟨n32, h⟩ := h
  refine HL32 _ _ _ _ _ _ (fun v16 v17 h H locs hP hD hS ls hl => ?_) n32 _ _ h _ _ hP hD hS ls (lv_sub hl [1, 2, 0] rfl)
  refine lv_iconst (v := 0) hx hb dX4_digest_60 (by decide) ?_
  refine lv_istore_n (lv' := [(3, .int 0), (0, .ref (q 0 99)), (1, .long v16)]) hx hb dX4_digest_61 rfl hl (by decide) rfl (fun ls hl => ?_)
  obtain ⟨n31, h⟩ := h
  refine HL62 _ _ _ _ _ _ (fun v19 v20 h H locs hP hD hS ls hl => ?_) n31 _ _ h _ _ hP hD hS ls (lv_sub hl [1, 2, 0] rfl)
  refine lv_iconst (v := 0) hx hb dX4_digest_91 (by decide) ?_
  refine lv_istore_n (lv' := [(3, .int 0), (0, .ref (q 0 99)), (1, .long v19)]) hx hb dX4_digest_92 rfl hl (by decide) rfl (fun ls hl => ?_)
  obtain ⟨n30, h⟩ := h
  refine HL93 _ _ _ _ _ _ (fun v22 v23 h H locs hP hD hS ls hl => ?_) n30 _ _ h _ _ hP hD hS ls (lv_sub hl [1, 2, 0] rfl)
  refine lv_iconst (v := 0) hx hb dX4_digest_127 (by decide) ?_
  refine lv_istore_n (lv' := [(3, .int 0), (0, .ref (q 0 99)), (1, .long v22)]) hx hb dX4_digest_128 rfl hl (by decide) rfl (fun ls hl => ?_)
  obtain ⟨n29, h⟩ := h
  refine HL129 _ _ _ _ _ _ (fun v26 v27 h H locs hP hD hS ls hl => ?_) n29 _ _ h _ _ hP hD hS ls (lv_sub hl [1, 2, 0] rfl)
  refine ki_X4_248 hx hb hT hown dX4_digest_180 ?_
  refine lv_lload_n hx hb dX4_digest_183 rfl (lv_at hl 1 rfl) ?_
  refine lv_lmul hx hb dX4_digest_184 ?_
  refine lv_aload_n hx hb dX4_digest_185 rfl (lv_at hl 0 rfl) ?_
  refine gf_X4_34 hx hb hT hown hK hP 0 rfl rfl dX4_digest_186 ?_
  refine lv_ladd hx hb dX4_digest_189 ?_
  refine lv_topl (fun v28 ev28 => ?_)
  have h := h v28 ev28
  refine lv_lstore_n (lv' := [(1, .long v28), (0, .ref (q 0 99)), (3, .int v27)]) hx hb dX4_digest_190 rfl hl (by decide) rfl (fun ls hl => ?_)
  refine ki_X4_248 hx hb hT hown dX4_digest_191 ?_
  refine lv_lload_n hx hb dX4_digest_194 rfl (lv_at hl 0 rfl) ?_
  refine lv_lmul hx hb dX4_digest_195 ?_
  refine lv_aload_n hx hb dX4_digest_196 rfl (lv_at hl 1 rfl) ?_
  refine gf_X4_38 hx hb hT hown hK hP 0 rfl rfl dX4_digest_197 ?_
  refine lv_ladd hx hb dX4_digest_200 ?_
  exact rt_Wl hx hb hr hlk dX4_digest_201 (N8, D9, X10, PM11, PL12) hP hD hS h
