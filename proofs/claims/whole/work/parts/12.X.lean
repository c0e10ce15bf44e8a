abbrev rm_X3_addByte : Room := { frames := 0, cells := 0, slots := 0, locals := 0 }
set_option maxRecDepth 100000 in
set_option maxHeartbeats 4000000 in
theorem c_X3_addByte (l : Launch) (G : va_G) (cs ts : Nat → Nat) (a : Nat → Nat) (sz : Nat)  (X : ZI)   (x1 : Int32) (post : ZI → Prop) (h : w_X3_addByte X x1 post) : Met l yX3_addByte [.code yX3_addByte cX3_addByte 2 none] rm_X3_addByte (va_Pc [.ref (a 99), .int x1] (CP G cs ts (txW a cs X) sz)) (va_Qv (fun (u : ZI) => post u) (CB G (va_A (txW a cs X) sz) (fun u => (txW a cs u))) (va_A (txW a cs X) sz)) 0 0 (va_A (txW a cs X) sz) := by
  refine ax_W (Qc := fun A => va_Qv (fun (u : ZI) => post u) (CB G A (fun u => (txW a cs u))) A) (by decide) (Nat.le_of_ble_eq_true rfl) sz ?_
  intro p e s m args below meth c A hx hb hr hlk hml hown hT hC hnm H locs hP hD hS ls hl
  have hK := hC.2.1
  have hA := hC.2.2
  have hl : lv_has ls 2 [(0, .ref (a 99)), (1, .int x1)] := hl
  unfold w_X3_addByte at h
  refine lv_aload_n hx hb dX3_addByte_0 rfl (lv_at hl 0 rfl) ?_
  refine gf_X3_15 hx hb hT hown hK hP 0 rfl rfl dX3_addByte_1 ?_
  refine lv_sipush (v := 150) hx hb dX3_addByte_4 (by decide) ?_
  refine lv_icmp_ge (tgt := 31) hx hb dX3_addByte_7 (by decide) (fun ct => ?_) (fun ct => ?_)
  · have h := h.1 ct
    exact rt_Wv hx hb hr hlk dX3_addByte_31 X hP hD hS h
  · have h := h.2 ct
    refine lv_aload_n hx hb dX3_addByte_10 rfl (lv_at hl 0 rfl) ?_
    refine gf_X3_11 hx hb hT hown hK hP 0 rfl rfl dX3_addByte_11 ?_
    refine lv_aload_n hx hb dX3_addByte_14 rfl (lv_at hl 0 rfl) ?_
    refine gf_X3_15 hx hb hT hown hK hP 0 rfl rfl dX3_addByte_15 ?_
    refine lv_iload_n hx hb dX3_addByte_18 rfl (lv_at hl 1 rfl) ?_
    refine lv_i2b (v := x1.toInt8.toInt32) hx hb dX3_addByte_19 rfl ?_
    obtain ⟨hi, h⟩ := h
    refine va_bast hx hb hK hP hD hS 1 1 rfl rfl hi dX3_addByte_20 (fun H locs hP hD hS => ?_)
    obtain ⟨X1, eX1⟩ : ∃ z : ZI, z = mu X 0 (X 1 0).toNatClampNeg (vp_nar .byte x1.toInt8.toInt32) := ⟨_, rfl⟩
    have h := h X1 eX1
    have hP : va_P G vwCl (txW a cs X1) H := by rw [eX1]; exact hP
    have hD : va_D A (txW a cs X1) := by rw [eX1]; exact hD
    refine lv_aload_n hx hb dX3_addByte_21 rfl (lv_at hl 0 rfl) ?_
    refine lv_dup hx hb dX3_addByte_22 rfl ?_
    refine gf_X3_15 hx hb hT hown hK hP 0 rfl rfl dX3_addByte_23 ?_
    refine lv_iconst (v := 1) hx hb dX3_addByte_26 (by decide) ?_
    refine lv_iadd hx hb dX3_addByte_27 ?_
    refine pf_X3_15 hx hb hT hown hK hP hD hS 0 rfl (Nat.le_of_ble_eq_true rfl) dX3_addByte_28 (fun H locs hP hD hS => ?_)
    obtain ⟨X2, eX2⟩ : ∃ z : ZI, z = mu X1 1 0 ((X1 1 0) + 1) := ⟨_, rfl⟩
    have h := h X2 eX2
    have hP : va_P G vwCl (txW a cs X2) H := by rw [eX2]; exact hP
    have hD : va_D A (txW a cs X2) := by rw [eX2]; exact hD
    exact rt_Wv hx hb hr hlk dX3_addByte_31 X2 hP hD hS h
abbrev rm_X3_isWithin : Room := { frames := 0, cells := 0, slots := 0, locals := 0 }
set_option maxRecDepth 100000 in
set_option maxHeartbeats 4000000 in
theorem c_X3_isWithin (l : Launch) (G : va_G) (cs ts : Nat → Nat) (a : Nat → Nat) (sz : Nat)  (X : ZI)   (x1 : Int32) (x2 : Int32) (x3 : Int32) (post : Int32 → ZI → Prop) (h : w_X3_isWithin X x1 x2 x3 post) : Met l yX3_isWithin [.code yX3_isWithin cX3_isWithin 4 (some .boolean)] rm_X3_isWithin (va_Pc [.ref (a 99), .int x1, .int x2, .int x3] (CP G cs ts (txW a cs X) sz)) (va_Qi (fun (r : Int32) (u : ZI) => post r u) (CB G (va_A (txW a cs X) sz) (fun u => (txW a cs u))) (va_A (txW a cs X) sz)) 0 0 (va_A (txW a cs X) sz) := by
  refine ax_W (Qc := fun A => va_Qi (fun (r : Int32) (u : ZI) => post r u) (CB G A (fun u => (txW a cs u))) A) (by decide) (Nat.le_of_ble_eq_true rfl) sz ?_
  intro p e s m args below meth c A hx hb hr hlk hml hown hT hC hnm H locs hP hD hS ls hl
  have hK := hC.2.1
  have hA := hC.2.2
  have hl : lv_has ls 4 [(0, .ref (a 99)), (1, .int x1), (2, .int x2), (3, .int x3)] := hl
  unfold w_X3_isWithin at h
  refine lv_iload_n hx hb dX3_isWithin_0 rfl (lv_at hl 1 rfl) ?_
  refine lv_aload_n hx hb dX3_isWithin_1 rfl (lv_at hl 0 rfl) ?_
  refine gf_X3_15 hx hb hT hown hK hP 0 rfl rfl dX3_isWithin_2 ?_
  refine lv_icmp_ge (tgt := 32) hx hb dX3_isWithin_5 (by decide) (fun ct => ?_) (fun ct => ?_)
  · have h := h.1 ct
    refine lv_iconst (v := 0) hx hb dX3_isWithin_32 (by decide) ?_
    exact rt_Wz hx hb hr hlk dX3_isWithin_33 rfl X hP hD hS h
  · have h := h.2 ct
    refine lv_aload_n hx hb dX3_isWithin_8 rfl (lv_at hl 0 rfl) ?_
    refine gf_X3_11 hx hb hT hown hK hP 0 rfl rfl dX3_isWithin_9 ?_
    refine lv_iload_n hx hb dX3_isWithin_12 rfl (lv_at hl 1 rfl) ?_
    obtain ⟨hi, h⟩ := h
    refine va_bald hx hb hK hP 1 1 rfl rfl hi dX3_isWithin_13 ?_
    refine lv_iload_n hx hb dX3_isWithin_14 rfl (lv_at hl 2 rfl) ?_
    refine lv_icmp_lt (tgt := 32) hx hb dX3_isWithin_15 (by decide) (fun ct => ?_) (fun ct => ?_)
    · have h := h.1 ct
      refine lv_iconst (v := 0) hx hb dX3_isWithin_32 (by decide) ?_
      exact rt_Wz hx hb hr hlk dX3_isWithin_33 rfl X hP hD hS h
    · have h := h.2 ct
      refine lv_aload_n hx hb dX3_isWithin_18 rfl (lv_at hl 0 rfl) ?_
      refine gf_X3_11 hx hb hT hown hK hP 0 rfl rfl dX3_isWithin_19 ?_
      refine lv_iload_n hx hb dX3_isWithin_22 rfl (lv_at hl 1 rfl) ?_
      obtain ⟨hi, h⟩ := h
      refine va_bald hx hb hK hP 1 1 rfl rfl hi dX3_isWithin_23 ?_
      refine lv_iload_n hx hb dX3_isWithin_24 rfl (lv_at hl 3 rfl) ?_
      refine lv_icmp_gt (tgt := 32) hx hb dX3_isWithin_25 (by decide) (fun ct => ?_) (fun ct => ?_)
      · have h := h.1 ct
        refine lv_iconst (v := 0) hx hb dX3_isWithin_32 (by decide) ?_
        exact rt_Wz hx hb hr hlk dX3_isWithin_33 rfl X hP hD hS h
      · have h := h.2 ct
        refine lv_iconst (v := 1) hx hb dX3_isWithin_28 (by decide) ?_
        refine lv_goto (tgt := 33) hx hb dX3_isWithin_29 (by decide) ?_
        exact rt_Wz hx hb hr hlk dX3_isWithin_33 rfl X hP hD hS h
abbrev rm_X3_isTheWord : Room := { frames := 4, cells := 0, slots := 0, locals := 85 }
set_option maxRecDepth 100000 in
set_option maxHeartbeats 4000000 in
theorem c_X3_isTheWord (l : Launch) (G : va_G) (cs ts : Nat → Nat) (a : Nat → Nat) (sz : Nat)  (X : ZI) (si : Nat) (hsi : si < 3)  (post : Int32 → ZI → Prop) (h : w_X3_isTheWord X si post) : Met l yX3_isTheWord [.code yX3_isTheWord cX3_isTheWord 3 (some .boolean)] rm_X3_isTheWord (va_Pc [.ref (a 99), .ref (ts (3 + si))] (CP G cs ts (txW a cs X) sz)) (va_Qi (fun (r : Int32) (u : ZI) => post r u) (CB G (va_A (txW a cs X) sz) (fun u => (txW a cs u))) (va_A (txW a cs X) sz)) 0 0 (va_A (txW a cs X) sz) := by
  refine ax_W (Qc := fun A => va_Qi (fun (r : Int32) (u : ZI) => post r u) (CB G A (fun u => (txW a cs u))) A) (by decide) (Nat.le_of_ble_eq_true rfl) sz ?_
  intro p e s m args below meth c A hx hb hr hlk hml hown hT hC hnm H locs hP hD hS ls hl
  have hK := hC.2.1
  have hA := hC.2.2
  have hl : lv_has ls 3 [(0, .ref (a 99)), (1, .ref (ts (3 + si)))] := hl
  unfold w_X3_isTheWord at h
  have HL20 : ∀ (Xf : ZI)  (K : Int32 → Prop), (∀  (y2 : Int32), K y2 → ∀ (H : Heap) (locs : List Loc), va_P G vwCl (txW a cs Xf) H → va_D A (txW a cs Xf) → va_S A s.heap H locs → ∀ ls : Array Slot, lv_has ls 3 [(0, .ref (a 99)), (1, .ref (ts (3 + si))), (2, .int y2)] → W p l e rm_X3_isTheWord s m args below meth c H locs 0 0 (MQ below (va_Qi (fun (r : Int32) (u : ZI) => post r u) (CB G A (fun u => (txW a cs u))) A) args s 0 0 A) (F0 m 68 ls [])) → ∀ (n : Nat)  (y2 : Int32), itF (w_X3_isTheWord_L20 si Xf post K) (fun _ => False) n y2 → ∀ (H : Heap) (locs : List Loc), va_P G vwCl (txW a cs Xf) H → va_D A (txW a cs Xf) → va_S A s.heap H locs → ∀ ls : Array Slot, lv_has ls 3 [(0, .ref (a 99)), (1, .ref (ts (3 + si))), (2, .int y2)] → W p l e rm_X3_isTheWord s m args below meth c H locs 0 0 (MQ below (va_Qi (fun (r : Int32) (u : ZI) => post r u) (CB G A (fun u => (txW a cs u))) A) args s 0 0 A) (F0 m 20 ls []) := by
    intro Xf K hKK n
    induction n with
    | zero =>
      intro y2 h
      exact absurd h id
    | succ n ih =>
      intro y2 h H locs hP hD hS ls hl
      have h : w_X3_isTheWord_L20 si Xf post K (itF (w_X3_isTheWord_L20 si Xf post K) (fun _ => False) n) y2 := h
      generalize itF (w_X3_isTheWord_L20 si Xf post K) (fun _ => False) n = rec at h ih
      unfold w_X3_isTheWord_L20 at h
      refine lv_iload_n hx hb dX3_isTheWord_20 rfl (lv_at hl 2 rfl) ?_
      refine lv_aload_n hx hb dX3_isTheWord_21 rfl (lv_at hl 1 rfl) ?_
      refine cl_Si (rn_VX hsi rfl (rest := [.int y2]) hx hb hml hown hT hl.1 hC.1 hS ck_X3_92 (c_J0_length_8abf5 l ts si hsi) ⟨rfl, rfl, (Nat.le_of_ble_eq_true rfl), (Nat.le_of_ble_eq_true rfl)⟩ ⟨Nat.zero_le _, Nat.zero_le _⟩ rfl rfl (Nat.le_of_ble_eq_true rfl) dX3_isTheWord_22) (fun r2 er2 => ?_)
      have h := h r2 er2
      refine lv_icmp_ge (tgt := 68) hx hb dX3_isTheWord_25 (by decide) (fun ct => ?_) (fun ct => ?_)
      · have h := h.1 ct
        exact hKK _ h _ _ hP hD hS ls (lv_sub hl [0, 1, 2] rfl)
      · have h := h.2 ct
        refine lv_aload_n hx hb dX3_isTheWord_28 rfl (lv_at hl 0 rfl) ?_
        refine gf_X3_19 hx hb hT hown hK hP 0 rfl rfl dX3_isTheWord_29 ?_
        refine lv_iload_n hx hb dX3_isTheWord_32 rfl (lv_at hl 2 rfl) ?_
        refine lv_iadd hx hb dX3_isTheWord_33 ?_
        refine lv_aload_n hx hb dX3_isTheWord_34 rfl (lv_at hl 0 rfl) ?_
        refine gf_X3_15 hx hb hT hown hK hP 0 rfl rfl dX3_isTheWord_35 ?_
        refine lv_icmp_ge (tgt := 60) hx hb dX3_isTheWord_38 (by decide) (fun ct => ?_) (fun ct => ?_)
        · have h := h.1 ct
          refine lv_iconst (v := 0) hx hb dX3_isTheWord_60 (by decide) ?_
          exact rt_Wz hx hb hr hlk dX3_isTheWord_61 rfl Xf hP hD hS h
        · have h := h.2 ct
          refine lv_aload_n hx hb dX3_isTheWord_41 rfl (lv_at hl 0 rfl) ?_
          refine gf_X3_11 hx hb hT hown hK hP 0 rfl rfl dX3_isTheWord_42 ?_
          refine lv_aload_n hx hb dX3_isTheWord_45 rfl (lv_at hl 0 rfl) ?_
          refine gf_X3_19 hx hb hT hown hK hP 0 rfl rfl dX3_isTheWord_46 ?_
          refine lv_iload_n hx hb dX3_isTheWord_49 rfl (lv_at hl 2 rfl) ?_
          refine lv_iadd hx hb dX3_isTheWord_50 ?_
          obtain ⟨hi, h⟩ := h
          refine va_bald hx hb hK hP 1 1 rfl rfl hi dX3_isTheWord_51 ?_
          refine lv_aload_n hx hb dX3_isTheWord_52 rfl (lv_at hl 1 rfl) ?_
          refine lv_iload_n hx hb dX3_isTheWord_53 rfl (lv_at hl 2 rfl) ?_
          obtain ⟨hi, h⟩ := h
          refine cl_Si (rn_VX hsi rfl (rest := [.int (Xf 0 ((Xf 2 0) + y2).toNatClampNeg)]) hx hb hml hown hT hl.1 hC.1 hS ck_X3_97 (c_J0_charAt_5068e l ts si hsi y2 hi) ⟨rfl, rfl, (Nat.le_of_ble_eq_true rfl), (Nat.le_of_ble_eq_true rfl)⟩ ⟨Nat.zero_le _, Nat.zero_le _⟩ rfl rfl (Nat.le_of_ble_eq_true rfl) dX3_isTheWord_54) (fun r3 er3 => ?_)
          have h := h r3 er3
          refine lv_icmp_eq (tgt := 62) hx hb dX3_isTheWord_57 (by decide) (fun ct => ?_) (fun ct => ?_)
          · have h := h.1 ct
            refine lv_iinc (v := y2 + 1) (lv' := [(2, .int (y2 + 1)), (0, .ref (a 99)), (1, .ref (ts (3 + si)))]) hx hb dX3_isTheWord_62 hl (k := 2) rfl rfl (by decide) rfl (fun ls hl => ?_)
            refine lv_goto (tgt := 20) hx hb dX3_isTheWord_65 (by decide) ?_
            exact ih _ h _ _ hP hD hS ls (lv_sub hl [1, 2, 0] rfl)
          · have h := h.2 ct
            refine lv_iconst (v := 0) hx hb dX3_isTheWord_60 (by decide) ?_
            exact rt_Wz hx hb hr hlk dX3_isTheWord_61 rfl Xf hP hD hS h
  refine lv_aload_n hx hb dX3_isTheWord_0 rfl (lv_at hl 0 rfl) ?_
  refine gf_X3_22 hx hb hT hown hK hP 0 rfl rfl dX3_isTheWord_1 ?_
  refine lv_aload_n hx hb dX3_isTheWord_4 rfl (lv_at hl 0 rfl) ?_
  refine gf_X3_19 hx hb hT hown hK hP 0 rfl rfl dX3_isTheWord_5 ?_
  refine lv_isub hx hb dX3_isTheWord_8 ?_
  refine lv_aload_n hx hb dX3_isTheWord_9 rfl (lv_at hl 1 rfl) ?_
  refine cl_Si (rn_VX hsi rfl (rest := [.int ((X 3 0) - (X 2 0))]) hx hb hml hown hT hl.1 hC.1 hS ck_X3_92 (c_J0_length_8abf5 l ts si hsi) ⟨rfl, rfl, (Nat.le_of_ble_eq_true rfl), (Nat.le_of_ble_eq_true rfl)⟩ ⟨Nat.zero_le _, Nat.zero_le _⟩ rfl rfl (Nat.le_of_ble_eq_true rfl) dX3_isTheWord_10) (fun r1 er1 => ?_)
  have h := h r1 er1
  refine lv_icmp_eq (tgt := 18) hx hb dX3_isTheWord_13 (by decide) (fun ct => ?_) (fun ct => ?_)
  · have h := h.1 ct
    refine lv_iconst (v := 0) hx hb dX3_isTheWord_18 (by decide) ?_
    refine lv_istore_n (lv' := [(2, .int 0), (0, .ref (a 99)), (1, .ref (ts (3 + si)))]) hx hb dX3_isTheWord_19 rfl hl (by decide) rfl (fun ls hl => ?_)
    obtain ⟨n5, h⟩ := h
    refine HL20 _ _ (fun v4 h H locs hP hD hS ls hl => ?_) n5 _ h _ _ hP hD hS ls (lv_sub hl [1, 2, 0] rfl)
    refine lv_iconst (v := 1) hx hb dX3_isTheWord_68 (by decide) ?_
    exact rt_Wz hx hb hr hlk dX3_isTheWord_69 rfl X hP hD hS h
  · have h := h.2 ct
    refine lv_iconst (v := 0) hx hb dX3_isTheWord_16 (by decide) ?_
    exact rt_Wz hx hb hr hlk dX3_isTheWord_17 rfl X hP hD hS h
abbrev rm_X3_takeWord : Room := { frames := 5, cells := 0, slots := 0, locals := 107 }
set_option maxRecDepth 100000 in
set_option maxHeartbeats 4000000 in
theorem c_X3_takeWord (l : Launch) (G : va_G) (cs ts : Nat → Nat) (a : Nat → Nat) (sz : Nat)  (X : ZI)    (post : ZI → Prop) (h : w_X3_takeWord X post) : Met l yX3_takeWord [.code yX3_takeWord cX3_takeWord 1 none] rm_X3_takeWord (va_Pc [.ref (a 99)] (CP G cs ts (txW a cs X) sz)) (va_Qv (fun (u : ZI) => post u) (CB G (va_A (txW a cs X) sz) (fun u => (txW a cs u))) (va_A (txW a cs X) sz)) 0 0 (va_A (txW a cs X) sz) := by
  refine ax_W (Qc := fun A => va_Qv (fun (u : ZI) => post u) (CB G A (fun u => (txW a cs u))) A) (by decide) (Nat.le_of_ble_eq_true rfl) sz ?_
  intro p e s m args below meth c A hx hb hr hlk hml hown hT hC hnm H locs hP hD hS ls hl
  have hK := hC.2.1
  have hA := hC.2.2
  have hl : lv_has ls 1 [(0, .ref (a 99))] := hl
  unfold w_X3_takeWord at h
  have HL0 : ∀ (K : ZI → Prop), (∀ (Xv : ZI) , K Xv → ∀ (H : Heap) (locs : List Loc), va_P G vwCl (txW a cs Xv) H → va_D A (txW a cs Xv) → va_S A s.heap H locs → ∀ ls : Array Slot, lv_has ls 1 [(0, .ref (a 99))] → W p l e rm_X3_takeWord s m args below meth c H locs 0 0 (MQ below (va_Qv (fun (u : ZI) => post u) (CB G A (fun u => (txW a cs u))) A) args s 0 0 A) (F0 m 39 ls [])) → ∀ (n : Nat) (Xv : ZI) , itF (w_X3_takeWord_L0  post K) (fun _ => False) n Xv → ∀ (H : Heap) (locs : List Loc), va_P G vwCl (txW a cs Xv) H → va_D A (txW a cs Xv) → va_S A s.heap H locs → ∀ ls : Array Slot, lv_has ls 1 [(0, .ref (a 99))] → W p l e rm_X3_takeWord s m args below meth c H locs 0 0 (MQ below (va_Qv (fun (u : ZI) => post u) (CB G A (fun u => (txW a cs u))) A) args s 0 0 A) (F0 m 0 ls []) := by
    intro K hKK n
    induction n with
    | zero =>
      intro Xv h
      exact absurd h id
    | succ n ih =>
      intro Xv h H locs hP hD hS ls hl
      have h : w_X3_takeWord_L0  post K (itF (w_X3_takeWord_L0  post K) (fun _ => False) n) Xv := h
      generalize itF (w_X3_takeWord_L0  post K) (fun _ => False) n = rec at h ih
      unfold w_X3_takeWord_L0 at h
      refine lv_aload_n hx hb dX3_takeWord_0 rfl (lv_at hl 0 rfl) ?_
      refine gf_X3_22 hx hb hT hown hK hP 0 rfl rfl dX3_takeWord_1 ?_
      refine lv_aload_n hx hb dX3_takeWord_4 rfl (lv_at hl 0 rfl) ?_
      refine gf_X3_15 hx hb hT hown hK hP 0 rfl rfl dX3_takeWord_5 ?_
      refine lv_icmp_ge (tgt := 39) hx hb dX3_takeWord_8 (by decide) (fun ct => ?_) (fun ct => ?_)
      · have h := h.1 ct
        exact hKK _ h _ _ hP hD hS ls (lv_sub hl [0] rfl)
      · have h := h.2 ct
        refine lv_aload_n hx hb dX3_takeWord_11 rfl (lv_at hl 0 rfl) ?_
        refine lv_aload_n hx hb dX3_takeWord_12 rfl (lv_at hl 0 rfl) ?_
        refine gf_X3_22 hx hb hT hown hK hP 0 rfl rfl dX3_takeWord_13 ?_
        refine lv_bipush (v := 97) hx hb dX3_takeWord_16 (by decide) ?_
        refine lv_bipush (v := 122) hx hb dX3_takeWord_18 (by decide) ?_
        refine wi_all (rn_V (rest := []) (ci := 1) hx hb hml hown hT hl.1 hC hS hP hD 0 rfl rfl rfl ck_X3_72 (c_X3_isWithin l G cs ts a H.size Xv (Xv 3 0) 97 122 _ h) ⟨rfl, rfl, (Nat.le_of_ble_eq_true rfl), (Nat.le_of_ble_eq_true rfl)⟩ ⟨Nat.le_refl _, Nat.le_refl _⟩ rfl rfl (Nat.le_of_ble_eq_true rfl) dX3_takeWord_20) hD hS hA (fun r1 X2 H locs hP hD hS h => ?_)
        refine lv_if_eq (tgt := 39) hx hb dX3_takeWord_23 (by decide) (fun ct => ?_) (fun ct => ?_)
        · have h := h.1 ct
          exact hKK _ h _ _ hP hD hS ls (lv_sub hl [0] rfl)
        · have h := h.2 ct
          refine lv_aload_n hx hb dX3_takeWord_26 rfl (lv_at hl 0 rfl) ?_
          refine lv_dup hx hb dX3_takeWord_27 rfl ?_
          refine gf_X3_22 hx hb hT hown hK hP 0 rfl rfl dX3_takeWord_28 ?_
          refine lv_iconst (v := 1) hx hb dX3_takeWord_31 (by decide) ?_
          refine lv_iadd hx hb dX3_takeWord_32 ?_
          refine pf_X3_22 hx hb hT hown hK hP hD hS 0 rfl (Nat.le_of_ble_eq_true rfl) dX3_takeWord_33 (fun H locs hP hD hS => ?_)
          obtain ⟨X3, eX3⟩ : ∃ z : ZI, z = mu X2 3 0 ((X2 3 0) + 1) := ⟨_, rfl⟩
          have h := h X3 eX3
          have hP : va_P G vwCl (txW a cs X3) H := by rw [eX3]; exact hP
          have hD : va_D A (txW a cs X3) := by rw [eX3]; exact hD
          refine lv_goto (tgt := 0) hx hb dX3_takeWord_36 (by decide) ?_
          exact ih _ h _ _ hP hD hS ls (lv_sub hl [0] rfl)
  obtain ⟨n16, h⟩ := h
  refine HL0  _ (fun X4 h H locs hP hD hS ls hl => ?_) n16 _ h _ _ hP hD hS ls (lv_sub hl [0] rfl)
  refine lv_aload_n hx hb dX3_takeWord_39 rfl (lv_at hl 0 rfl) ?_
  refine lv_iconst (v := 1) hx hb dX3_takeWord_40 (by decide) ?_
  refine pf_X3_25 hx hb hT hown hK hP hD hS 0 rfl (Nat.le_of_ble_eq_true rfl) dX3_takeWord_41 (fun H locs hP hD hS => ?_)
  obtain ⟨X5, eX5⟩ : ∃ z : ZI, z = mu X4 4 0 1 := ⟨_, rfl⟩
  have h := h X5 eX5
  have hP : va_P G vwCl (txW a cs X5) H := by rw [eX5]; exact hP
  have hD : va_D A (txW a cs X5) := by rw [eX5]; exact hD
  refine lv_aload_n hx hb dX3_takeWord_44 rfl (lv_at hl 0 rfl) ?_
  refine va_ldcS hx hb hown hC.1.2.2.2.2.2.2.1 dX3_takeWord_45 ?_
  refine wi_all (rn_V (rest := []) (ci := 1) hx hb hml hown hT hl.1 hC hS hP hD 0 rfl rfl rfl ck_X3_84 (c_X3_isTheWord l G cs ts a H.size X5 0 (by decide)  _ h) ⟨rfl, rfl, (Nat.le_of_ble_eq_true rfl), (Nat.le_of_ble_eq_true rfl)⟩ ⟨Nat.le_refl _, Nat.le_refl _⟩ rfl rfl (Nat.le_of_ble_eq_true rfl) dX3_takeWord_47) hD hS hA (fun r6 X7 H locs hP hD hS h => ?_)
  refine lv_if_eq (tgt := 61) hx hb dX3_takeWord_50 (by decide) (fun ct => ?_) (fun ct => ?_)
  · have h := h.1 ct
    refine lv_aload_n hx hb dX3_takeWord_61 rfl (lv_at hl 0 rfl) ?_
    refine va_ldcS hx hb hown hC.1.2.2.2.2.2.2.2.1 dX3_takeWord_62 ?_
    refine wi_all (rn_V (rest := []) (ci := 1) hx hb hml hown hT hl.1 hC hS hP hD 0 rfl rfl rfl ck_X3_84 (c_X3_isTheWord l G cs ts a H.size X7 1 (by decide)  _ h) ⟨rfl, rfl, (Nat.le_of_ble_eq_true rfl), (Nat.le_of_ble_eq_true rfl)⟩ ⟨Nat.le_refl _, Nat.le_refl _⟩ rfl rfl (Nat.le_of_ble_eq_true rfl) dX3_takeWord_64) hD hS hA (fun r8 X9 H locs hP hD hS h => ?_)
    refine lv_if_eq (tgt := 78) hx hb dX3_takeWord_67 (by decide) (fun ct => ?_) (fun ct => ?_)
    · have h := h.1 ct
      refine lv_aload_n hx hb dX3_takeWord_78 rfl (lv_at hl 0 rfl) ?_
      refine va_ldcS hx hb hown hC.1.2.2.2.2.2.2.2.2.1 dX3_takeWord_79 ?_
      refine wi_all (rn_V (rest := []) (ci := 1) hx hb hml hown hT hl.1 hC hS hP hD 0 rfl rfl rfl ck_X3_84 (c_X3_isTheWord l G cs ts a H.size X9 2 (by decide)  _ h) ⟨rfl, rfl, (Nat.le_of_ble_eq_true rfl), (Nat.le_of_ble_eq_true rfl)⟩ ⟨Nat.le_refl _, Nat.le_refl _⟩ rfl rfl (Nat.le_of_ble_eq_true rfl) dX3_takeWord_81) hD hS hA (fun r10 X11 H locs hP hD hS h => ?_)
      refine lv_if_eq (tgt := 95) hx hb dX3_takeWord_84 (by decide) (fun ct => ?_) (fun ct => ?_)
      · have h := h.1 ct
        refine lv_aload_n hx hb dX3_takeWord_95 rfl (lv_at hl 0 rfl) ?_
        refine lv_iconst (v := 4) hx hb dX3_takeWord_96 (by decide) ?_
        refine pf_X3_25 hx hb hT hown hK hP hD hS 0 rfl (Nat.le_of_ble_eq_true rfl) dX3_takeWord_97 (fun H locs hP hD hS => ?_)
        obtain ⟨X12, eX12⟩ : ∃ z : ZI, z = mu X11 4 0 4 := ⟨_, rfl⟩
        have h := h X12 eX12
        have hP : va_P G vwCl (txW a cs X12) H := by rw [eX12]; exact hP
        have hD : va_D A (txW a cs X12) := by rw [eX12]; exact hD
        exact rt_Wv hx hb hr hlk dX3_takeWord_100 X12 hP hD hS h
      · have h := h.2 ct
        refine lv_aload_n hx hb dX3_takeWord_87 rfl (lv_at hl 0 rfl) ?_
        refine lv_iconst (v := 2) hx hb dX3_takeWord_88 (by decide) ?_
        refine pf_X3_28 hx hb hT hown hK hP hD hS 0 rfl (Nat.le_of_ble_eq_true rfl) dX3_takeWord_89 (fun H locs hP hD hS => ?_)
        obtain ⟨X13, eX13⟩ : ∃ z : ZI, z = mu X11 5 0 2 := ⟨_, rfl⟩
        have h := h X13 eX13
        have hP : va_P G vwCl (txW a cs X13) H := by rw [eX13]; exact hP
        have hD : va_D A (txW a cs X13) := by rw [eX13]; exact hD
        refine lv_goto (tgt := 100) hx hb dX3_takeWord_92 (by decide) ?_
        exact rt_Wv hx hb hr hlk dX3_takeWord_100 X13 hP hD hS h
    · have h := h.2 ct
      refine lv_aload_n hx hb dX3_takeWord_70 rfl (lv_at hl 0 rfl) ?_
      refine lv_iconst (v := 1) hx hb dX3_takeWord_71 (by decide) ?_
      refine pf_X3_28 hx hb hT hown hK hP hD hS 0 rfl (Nat.le_of_ble_eq_true rfl) dX3_takeWord_72 (fun H locs hP hD hS => ?_)
      obtain ⟨X14, eX14⟩ : ∃ z : ZI, z = mu X9 5 0 1 := ⟨_, rfl⟩
      have h := h X14 eX14
      have hP : va_P G vwCl (txW a cs X14) H := by rw [eX14]; exact hP
      have hD : va_D A (txW a cs X14) := by rw [eX14]; exact hD
      refine lv_goto (tgt := 100) hx hb dX3_takeWord_75 (by decide) ?_
      exact rt_Wv hx hb hr hlk dX3_takeWord_100 X14 hP hD hS h
  · have h := h.2 ct
    refine lv_aload_n hx hb dX3_takeWord_53 rfl (lv_at hl 0 rfl) ?_
    refine lv_iconst (v := 0) hx hb dX3_takeWord_54 (by decide) ?_
    refine pf_X3_28 hx hb hT hown hK hP hD hS 0 rfl (Nat.le_of_ble_eq_true rfl) dX3_takeWord_55 (fun H locs hP hD hS => ?_)
    obtain ⟨X15, eX15⟩ : ∃ z : ZI, z = mu X7 5 0 0 := ⟨_, rfl⟩
    have h := h X15 eX15
    have hP : va_P G vwCl (txW a cs X15) H := by rw [eX15]; exact hP
    have hD : va_D A (txW a cs X15) := by rw [eX15]; exact hD
    refine lv_goto (tgt := 100) hx hb dX3_takeWord_58 (by decide) ?_
    exact rt_Wv hx hb hr hlk dX3_takeWord_100 X15 hP hD hS h
abbrev rm_X3_takeNumber : Room := { frames := 1, cells := 0, slots := 0, locals := 23 }
set_option maxRecDepth 100000 in
set_option maxHeartbeats 4000000 in
theorem c_X3_takeNumber (l : Launch) (G : va_G) (cs ts : Nat → Nat) (a : Nat → Nat) (sz : Nat)  (X : ZI)    (post : ZI → Prop) (h : w_X3_takeNumber X post) : Met l yX3_takeNumber [.code yX3_takeNumber cX3_takeNumber 1 none] rm_X3_takeNumber (va_Pc [.ref (a 99)] (CP G cs ts (txW a cs X) sz)) (va_Qv (fun (u : ZI) => post u) (CB G (va_A (txW a cs X) sz) (fun u => (txW a cs u))) (va_A (txW a cs X) sz)) 0 0 (va_A (txW a cs X) sz) := by
  refine ax_W (Qc := fun A => va_Qv (fun (u : ZI) => post u) (CB G A (fun u => (txW a cs u))) A) (by decide) (Nat.le_of_ble_eq_true rfl) sz ?_
  intro p e s m args below meth c A hx hb hr hlk hml hown hT hC hnm H locs hP hD hS ls hl
  have hK := hC.2.1
  have hA := hC.2.2
  have hl : lv_has ls 1 [(0, .ref (a 99))] := hl
  unfold w_X3_takeNumber at h
  have HL5 : ∀ (K : ZI → Prop), (∀ (Xv : ZI) , K Xv → ∀ (H : Heap) (locs : List Loc), va_P G vwCl (txW a cs Xv) H → va_D A (txW a cs Xv) → va_S A s.heap H locs → ∀ ls : Array Slot, lv_has ls 1 [(0, .ref (a 99))] → W p l e rm_X3_takeNumber s m args below meth c H locs 0 0 (MQ below (va_Qv (fun (u : ZI) => post u) (CB G A (fun u => (txW a cs u))) A) args s 0 0 A) (F0 m 68 ls [])) → ∀ (n : Nat) (Xv : ZI) , itF (w_X3_takeNumber_L5  post K) (fun _ => False) n Xv → ∀ (H : Heap) (locs : List Loc), va_P G vwCl (txW a cs Xv) H → va_D A (txW a cs Xv) → va_S A s.heap H locs → ∀ ls : Array Slot, lv_has ls 1 [(0, .ref (a 99))] → W p l e rm_X3_takeNumber s m args below meth c H locs 0 0 (MQ below (va_Qv (fun (u : ZI) => post u) (CB G A (fun u => (txW a cs u))) A) args s 0 0 A) (F0 m 5 ls []) := by
    intro K hKK n
    induction n with
    | zero =>
      intro Xv h
      exact absurd h id
    | succ n ih =>
      intro Xv h H locs hP hD hS ls hl
      have h : w_X3_takeNumber_L5  post K (itF (w_X3_takeNumber_L5  post K) (fun _ => False) n) Xv := h
      generalize itF (w_X3_takeNumber_L5  post K) (fun _ => False) n = rec at h ih
      unfold w_X3_takeNumber_L5 at h
      refine lv_aload_n hx hb dX3_takeNumber_5 rfl (lv_at hl 0 rfl) ?_
      refine gf_X3_22 hx hb hT hown hK hP 0 rfl rfl dX3_takeNumber_6 ?_
      refine lv_aload_n hx hb dX3_takeNumber_9 rfl (lv_at hl 0 rfl) ?_
      refine gf_X3_15 hx hb hT hown hK hP 0 rfl rfl dX3_takeNumber_10 ?_
      refine lv_icmp_ge (tgt := 68) hx hb dX3_takeNumber_13 (by decide) (fun ct => ?_) (fun ct => ?_)
      · have h := h.1 ct
        exact hKK _ h _ _ hP hD hS ls (lv_sub hl [0] rfl)
      · have h := h.2 ct
        refine lv_aload_n hx hb dX3_takeNumber_16 rfl (lv_at hl 0 rfl) ?_
        refine lv_aload_n hx hb dX3_takeNumber_17 rfl (lv_at hl 0 rfl) ?_
        refine gf_X3_22 hx hb hT hown hK hP 0 rfl rfl dX3_takeNumber_18 ?_
        refine lv_bipush (v := 48) hx hb dX3_takeNumber_21 (by decide) ?_
        refine lv_bipush (v := 57) hx hb dX3_takeNumber_23 (by decide) ?_
        refine wi_all (rn_V (rest := []) (ci := 1) hx hb hml hown hT hl.1 hC hS hP hD 0 rfl rfl rfl ck_X3_72 (c_X3_isWithin l G cs ts a H.size Xv (Xv 3 0) 48 57 _ h) ⟨rfl, rfl, (Nat.le_of_ble_eq_true rfl), (Nat.le_of_ble_eq_true rfl)⟩ ⟨Nat.le_refl _, Nat.le_refl _⟩ rfl rfl (Nat.le_of_ble_eq_true rfl) dX3_takeNumber_25) hD hS hA (fun r2 X3 H locs hP hD hS h => ?_)
        refine lv_if_eq (tgt := 68) hx hb dX3_takeNumber_28 (by decide) (fun ct => ?_) (fun ct => ?_)
        · have h := h.1 ct
          exact hKK _ h _ _ hP hD hS ls (lv_sub hl [0] rfl)
        · have h := h.2 ct
          refine lv_aload_n hx hb dX3_takeNumber_31 rfl (lv_at hl 0 rfl) ?_
          refine lv_bipush (v := 10) hx hb dX3_takeNumber_32 (by decide) ?_
          refine lv_aload_n hx hb dX3_takeNumber_34 rfl (lv_at hl 0 rfl) ?_
          refine gf_X3_28 hx hb hT hown hK hP 0 rfl rfl dX3_takeNumber_35 ?_
          refine lv_imul hx hb dX3_takeNumber_38 ?_
          refine lv_aload_n hx hb dX3_takeNumber_39 rfl (lv_at hl 0 rfl) ?_
          refine gf_X3_11 hx hb hT hown hK hP 0 rfl rfl dX3_takeNumber_40 ?_
          refine lv_aload_n hx hb dX3_takeNumber_43 rfl (lv_at hl 0 rfl) ?_
          refine gf_X3_22 hx hb hT hown hK hP 0 rfl rfl dX3_takeNumber_44 ?_
          obtain ⟨hi, h⟩ := h
          refine va_bald hx hb hK hP 1 1 rfl rfl hi dX3_takeNumber_47 ?_
          refine lv_iadd hx hb dX3_takeNumber_48 ?_
          refine lv_bipush (v := 48) hx hb dX3_takeNumber_49 (by decide) ?_
          refine lv_isub hx hb dX3_takeNumber_51 ?_
          refine pf_X3_28 hx hb hT hown hK hP hD hS 0 rfl (Nat.le_of_ble_eq_true rfl) dX3_takeNumber_52 (fun H locs hP hD hS => ?_)
          obtain ⟨X4, eX4⟩ : ∃ z : ZI, z = mu X3 5 0 (((10 * (X3 5 0)) + (X3 0 (X3 3 0).toNatClampNeg)) - 48) := ⟨_, rfl⟩
          have h := h X4 eX4
          have hP : va_P G vwCl (txW a cs X4) H := by rw [eX4]; exact hP
          have hD : va_D A (txW a cs X4) := by rw [eX4]; exact hD
          refine lv_aload_n hx hb dX3_takeNumber_55 rfl (lv_at hl 0 rfl) ?_
          refine lv_dup hx hb dX3_takeNumber_56 rfl ?_
          refine gf_X3_22 hx hb hT hown hK hP 0 rfl rfl dX3_takeNumber_57 ?_
          refine lv_iconst (v := 1) hx hb dX3_takeNumber_60 (by decide) ?_
          refine lv_iadd hx hb dX3_takeNumber_61 ?_
          refine pf_X3_22 hx hb hT hown hK hP hD hS 0 rfl (Nat.le_of_ble_eq_true rfl) dX3_takeNumber_62 (fun H locs hP hD hS => ?_)
          obtain ⟨X5, eX5⟩ : ∃ z : ZI, z = mu X4 3 0 ((X4 3 0) + 1) := ⟨_, rfl⟩
          have h := h X5 eX5
          have hP : va_P G vwCl (txW a cs X5) H := by rw [eX5]; exact hP
          have hD : va_D A (txW a cs X5) := by rw [eX5]; exact hD
          refine lv_goto (tgt := 5) hx hb dX3_takeNumber_65 (by decide) ?_
          exact ih _ h _ _ hP hD hS ls (lv_sub hl [0] rfl)
  refine lv_aload_n hx hb dX3_takeNumber_0 rfl (lv_at hl 0 rfl) ?_
  refine lv_iconst (v := 0) hx hb dX3_takeNumber_1 (by decide) ?_
  refine pf_X3_28 hx hb hT hown hK hP hD hS 0 rfl (Nat.le_of_ble_eq_true rfl) dX3_takeNumber_2 (fun H locs hP hD hS => ?_)
  obtain ⟨X1, eX1⟩ : ∃ z : ZI, z = mu X 5 0 0 := ⟨_, rfl⟩
  have h := h X1 eX1
  have hP : va_P G vwCl (txW a cs X1) H := by rw [eX1]; exact hP
  have hD : va_D A (txW a cs X1) := by rw [eX1]; exact hD
  obtain ⟨n9, h⟩ := h
  refine HL5  _ (fun X6 h H locs hP hD hS ls hl => ?_) n9 _ h _ _ hP hD hS ls (lv_sub hl [0] rfl)
  refine lv_aload_n hx hb dX3_takeNumber_68 rfl (lv_at hl 0 rfl) ?_
  refine lv_aload_n hx hb dX3_takeNumber_69 rfl (lv_at hl 0 rfl) ?_
  refine gf_X3_22 hx hb hT hown hK hP 0 rfl rfl dX3_takeNumber_70 ?_
  refine lv_aload_n hx hb dX3_takeNumber_73 rfl (lv_at hl 0 rfl) ?_
  refine gf_X3_19 hx hb hT hown hK hP 0 rfl rfl dX3_takeNumber_74 ?_
  refine lv_isub hx hb dX3_takeNumber_77 ?_
  refine lv_iconst (v := 2) hx hb dX3_takeNumber_78 (by decide) ?_
  refine lv_icmp_gt (tgt := 86) hx hb dX3_takeNumber_79 (by decide) (fun ct => ?_) (fun ct => ?_)
  · have h := h.1 ct
    refine lv_iconst (v := 4) hx hb dX3_takeNumber_86 (by decide) ?_
    refine pf_X3_25 hx hb hT hown hK hP hD hS 0 rfl (Nat.le_of_ble_eq_true rfl) dX3_takeNumber_87 (fun H locs hP hD hS => ?_)
    obtain ⟨X7, eX7⟩ : ∃ z : ZI, z = mu X6 4 0 4 := ⟨_, rfl⟩
    have h := h X7 eX7
    have hP : va_P G vwCl (txW a cs X7) H := by rw [eX7]; exact hP
    have hD : va_D A (txW a cs X7) := by rw [eX7]; exact hD
    exact rt_Wv hx hb hr hlk dX3_takeNumber_90 X7 hP hD hS h
  · have h := h.2 ct
    refine lv_iconst (v := 2) hx hb dX3_takeNumber_82 (by decide) ?_
    refine lv_goto (tgt := 87) hx hb dX3_takeNumber_83 (by decide) ?_
    refine pf_X3_25 hx hb hT hown hK hP hD hS 0 rfl (Nat.le_of_ble_eq_true rfl) dX3_takeNumber_87 (fun H locs hP hD hS => ?_)
    obtain ⟨X8, eX8⟩ : ∃ z : ZI, z = mu X6 4 0 2 := ⟨_, rfl⟩
    have h := h X8 eX8
    have hP : va_P G vwCl (txW a cs X8) H := by rw [eX8]; exact hP
    have hD : va_D A (txW a cs X8) := by rw [eX8]; exact hD
    exact rt_Wv hx hb hr hlk dX3_takeNumber_90 X8 hP hD hS h
abbrev rm_X3_nextToken : Room := { frames := 6, cells := 0, slots := 0, locals := 127 }
set_option maxRecDepth 100000 in
set_option maxHeartbeats 4000000 in
theorem c_X3_nextToken (l : Launch) (G : va_G) (cs ts : Nat → Nat) (a : Nat → Nat) (sz : Nat)  (X : ZI)    (post : ZI → Prop) (h : w_X3_nextToken X post) : Met l yX3_nextToken [.code yX3_nextToken cX3_nextToken 1 none] rm_X3_nextToken (va_Pc [.ref (a 99)] (CP G cs ts (txW a cs X) sz)) (va_Qv (fun (u : ZI) => post u) (CB G (va_A (txW a cs X) sz) (fun u => (txW a cs u))) (va_A (txW a cs X) sz)) 0 0 (va_A (txW a cs X) sz) := by
  refine ax_W (Qc := fun A => va_Qv (fun (u : ZI) => post u) (CB G A (fun u => (txW a cs u))) A) (by decide) (Nat.le_of_ble_eq_true rfl) sz ?_
  intro p e s m args below meth c A hx hb hr hlk hml hown hT hC hnm H locs hP hD hS ls hl
  have hK := hC.2.1
  have hA := hC.2.2
  have hl : lv_has ls 1 [(0, .ref (a 99))] := hl
  unfold w_X3_nextToken at h
  have HL8 : ∀ (K : ZI → Prop), (∀ (Xv : ZI) , K Xv → ∀ (H : Heap) (locs : List Loc), va_P G vwCl (txW a cs Xv) H → va_D A (txW a cs Xv) → va_S A s.heap H locs → ∀ ls : Array Slot, lv_has ls 1 [(0, .ref (a 99))] → W p l e rm_X3_nextToken s m args below meth c H locs 0 0 (MQ below (va_Qv (fun (u : ZI) => post u) (CB G A (fun u => (txW a cs u))) A) args s 0 0 A) (F0 m 46 ls [])) → ∀ (n : Nat) (Xv : ZI) , itF (w_X3_nextToken_L8  post K) (fun _ => False) n Xv → ∀ (H : Heap) (locs : List Loc), va_P G vwCl (txW a cs Xv) H → va_D A (txW a cs Xv) → va_S A s.heap H locs → ∀ ls : Array Slot, lv_has ls 1 [(0, .ref (a 99))] → W p l e rm_X3_nextToken s m args below meth c H locs 0 0 (MQ below (va_Qv (fun (u : ZI) => post u) (CB G A (fun u => (txW a cs u))) A) args s 0 0 A) (F0 m 8 ls []) := by
    intro K hKK n
    induction n with
    | zero =>
      intro Xv h
      exact absurd h id
    | succ n ih =>
      intro Xv h H locs hP hD hS ls hl
      have h : w_X3_nextToken_L8  post K (itF (w_X3_nextToken_L8  post K) (fun _ => False) n) Xv := h
      generalize itF (w_X3_nextToken_L8  post K) (fun _ => False) n = rec at h ih
      unfold w_X3_nextToken_L8 at h
      refine lv_aload_n hx hb dX3_nextToken_8 rfl (lv_at hl 0 rfl) ?_
      refine gf_X3_19 hx hb hT hown hK hP 0 rfl rfl dX3_nextToken_9 ?_
      refine lv_aload_n hx hb dX3_nextToken_12 rfl (lv_at hl 0 rfl) ?_
      refine gf_X3_15 hx hb hT hown hK hP 0 rfl rfl dX3_nextToken_13 ?_
      refine lv_icmp_ge (tgt := 46) hx hb dX3_nextToken_16 (by decide) (fun ct => ?_) (fun ct => ?_)
      · have h := h.1 ct
        exact hKK _ h _ _ hP hD hS ls (lv_sub hl [0] rfl)
      · have h := h.2 ct
        refine lv_aload_n hx hb dX3_nextToken_19 rfl (lv_at hl 0 rfl) ?_
        refine gf_X3_11 hx hb hT hown hK hP 0 rfl rfl dX3_nextToken_20 ?_
        refine lv_aload_n hx hb dX3_nextToken_23 rfl (lv_at hl 0 rfl) ?_
        refine gf_X3_19 hx hb hT hown hK hP 0 rfl rfl dX3_nextToken_24 ?_
        obtain ⟨hi, h⟩ := h
        refine va_bald hx hb hK hP 1 1 rfl rfl hi dX3_nextToken_27 ?_
        refine lv_bipush (v := 32) hx hb dX3_nextToken_28 (by decide) ?_
        refine lv_icmp_ne (tgt := 46) hx hb dX3_nextToken_30 (by decide) (fun ct => ?_) (fun ct => ?_)
        · have h := h.1 ct
          exact hKK _ h _ _ hP hD hS ls (lv_sub hl [0] rfl)
        · have h := h.2 ct
          refine lv_aload_n hx hb dX3_nextToken_33 rfl (lv_at hl 0 rfl) ?_
          refine lv_dup hx hb dX3_nextToken_34 rfl ?_
          refine gf_X3_19 hx hb hT hown hK hP 0 rfl rfl dX3_nextToken_35 ?_
          refine lv_iconst (v := 1) hx hb dX3_nextToken_38 (by decide) ?_
          refine lv_iadd hx hb dX3_nextToken_39 ?_
          refine pf_X3_19 hx hb hT hown hK hP hD hS 0 rfl (Nat.le_of_ble_eq_true rfl) dX3_nextToken_40 (fun H locs hP hD hS => ?_)
          obtain ⟨X2, eX2⟩ : ∃ z : ZI, z = mu Xv 2 0 ((Xv 2 0) + 1) := ⟨_, rfl⟩
          have h := h X2 eX2
          have hP : va_P G vwCl (txW a cs X2) H := by rw [eX2]; exact hP
          have hD : va_D A (txW a cs X2) := by rw [eX2]; exact hD
          refine lv_goto (tgt := 8) hx hb dX3_nextToken_43 (by decide) ?_
          exact ih _ h _ _ hP hD hS ls (lv_sub hl [0] rfl)
  refine lv_aload_n hx hb dX3_nextToken_0 rfl (lv_at hl 0 rfl) ?_
  refine lv_aload_n hx hb dX3_nextToken_1 rfl (lv_at hl 0 rfl) ?_
  refine gf_X3_22 hx hb hT hown hK hP 0 rfl rfl dX3_nextToken_2 ?_
  refine pf_X3_19 hx hb hT hown hK hP hD hS 0 rfl (Nat.le_of_ble_eq_true rfl) dX3_nextToken_5 (fun H locs hP hD hS => ?_)
  obtain ⟨X1, eX1⟩ : ∃ z : ZI, z = mu X 2 0 (X 3 0) := ⟨_, rfl⟩
  have h := h X1 eX1
  have hP : va_P G vwCl (txW a cs X1) H := by rw [eX1]; exact hP
  have hD : va_D A (txW a cs X1) := by rw [eX1]; exact hD
  obtain ⟨n15, h⟩ := h
  refine HL8  _ (fun X3 h H locs hP hD hS ls hl => ?_) n15 _ h _ _ hP hD hS ls (lv_sub hl [0] rfl)
  refine lv_aload_n hx hb dX3_nextToken_46 rfl (lv_at hl 0 rfl) ?_
  refine lv_aload_n hx hb dX3_nextToken_47 rfl (lv_at hl 0 rfl) ?_
  refine gf_X3_19 hx hb hT hown hK hP 0 rfl rfl dX3_nextToken_48 ?_
  refine pf_X3_22 hx hb hT hown hK hP hD hS 0 rfl (Nat.le_of_ble_eq_true rfl) dX3_nextToken_51 (fun H locs hP hD hS => ?_)
  obtain ⟨X4, eX4⟩ : ∃ z : ZI, z = mu X3 3 0 (X3 2 0) := ⟨_, rfl⟩
  have h := h X4 eX4
  have hP : va_P G vwCl (txW a cs X4) H := by rw [eX4]; exact hP
  have hD : va_D A (txW a cs X4) := by rw [eX4]; exact hD
  refine lv_aload_n hx hb dX3_nextToken_54 rfl (lv_at hl 0 rfl) ?_
  refine gf_X3_19 hx hb hT hown hK hP 0 rfl rfl dX3_nextToken_55 ?_
  refine lv_aload_n hx hb dX3_nextToken_58 rfl (lv_at hl 0 rfl) ?_
  refine gf_X3_15 hx hb hT hown hK hP 0 rfl rfl dX3_nextToken_59 ?_
  refine lv_icmp_lt (tgt := 73) hx hb dX3_nextToken_62 (by decide) (fun ct => ?_) (fun ct => ?_)
  · have h := h.1 ct
    refine lv_aload_n hx hb dX3_nextToken_73 rfl (lv_at hl 0 rfl) ?_
    refine gf_X3_11 hx hb hT hown hK hP 0 rfl rfl dX3_nextToken_74 ?_
    refine lv_aload_n hx hb dX3_nextToken_77 rfl (lv_at hl 0 rfl) ?_
    refine gf_X3_19 hx hb hT hown hK hP 0 rfl rfl dX3_nextToken_78 ?_
    obtain ⟨hi, h⟩ := h
    refine va_bald hx hb hK hP 1 1 rfl rfl hi dX3_nextToken_81 ?_
    refine lv_bipush (v := 59) hx hb dX3_nextToken_82 (by decide) ?_
    refine lv_icmp_ne (tgt := 105) hx hb dX3_nextToken_84 (by decide) (fun ct => ?_) (fun ct => ?_)
    · have h := h.1 ct
      refine lv_aload_n hx hb dX3_nextToken_105 rfl (lv_at hl 0 rfl) ?_
      refine lv_aload_n hx hb dX3_nextToken_106 rfl (lv_at hl 0 rfl) ?_
      refine gf_X3_19 hx hb hT hown hK hP 0 rfl rfl dX3_nextToken_107 ?_
      refine lv_bipush (v := 97) hx hb dX3_nextToken_110 (by decide) ?_
      refine lv_bipush (v := 122) hx hb dX3_nextToken_112 (by decide) ?_
      refine wi_all (rn_V (rest := []) (ci := 1) hx hb hml hown hT hl.1 hC hS hP hD 0 rfl rfl rfl ck_X3_72 (c_X3_isWithin l G cs ts a H.size X4 (X4 2 0) 97 122 _ h) ⟨rfl, rfl, (Nat.le_of_ble_eq_true rfl), (Nat.le_of_ble_eq_true rfl)⟩ ⟨Nat.le_refl _, Nat.le_refl _⟩ rfl rfl (Nat.le_of_ble_eq_true rfl) dX3_nextToken_114) hD hS hA (fun r5 X6 H locs hP hD hS h => ?_)
      refine lv_if_eq (tgt := 127) hx hb dX3_nextToken_117 (by decide) (fun ct => ?_) (fun ct => ?_)
      · have h := h.1 ct
        refine lv_aload_n hx hb dX3_nextToken_127 rfl (lv_at hl 0 rfl) ?_
        refine lv_aload_n hx hb dX3_nextToken_128 rfl (lv_at hl 0 rfl) ?_
        refine gf_X3_19 hx hb hT hown hK hP 0 rfl rfl dX3_nextToken_129 ?_
        refine lv_bipush (v := 48) hx hb dX3_nextToken_132 (by decide) ?_
        refine lv_bipush (v := 57) hx hb dX3_nextToken_134 (by decide) ?_
        refine wi_all (rn_V (rest := []) (ci := 1) hx hb hml hown hT hl.1 hC hS hP hD 0 rfl rfl rfl ck_X3_72 (c_X3_isWithin l G cs ts a H.size X6 (X6 2 0) 48 57 _ h) ⟨rfl, rfl, (Nat.le_of_ble_eq_true rfl), (Nat.le_of_ble_eq_true rfl)⟩ ⟨Nat.le_refl _, Nat.le_refl _⟩ rfl rfl (Nat.le_of_ble_eq_true rfl) dX3_nextToken_136) hD hS hA (fun r7 X8 H locs hP hD hS h => ?_)
        refine lv_if_eq (tgt := 149) hx hb dX3_nextToken_139 (by decide) (fun ct => ?_) (fun ct => ?_)
        · have h := h.1 ct
          refine lv_aload_n hx hb dX3_nextToken_149 rfl (lv_at hl 0 rfl) ?_
          refine lv_iconst (v := 4) hx hb dX3_nextToken_150 (by decide) ?_
          refine pf_X3_25 hx hb hT hown hK hP hD hS 0 rfl (Nat.le_of_ble_eq_true rfl) dX3_nextToken_151 (fun H locs hP hD hS => ?_)
          obtain ⟨X9, eX9⟩ : ∃ z : ZI, z = mu X8 4 0 4 := ⟨_, rfl⟩
          have h := h X9 eX9
          have hP : va_P G vwCl (txW a cs X9) H := by rw [eX9]; exact hP
          have hD : va_D A (txW a cs X9) := by rw [eX9]; exact hD
          exact rt_Wv hx hb hr hlk dX3_nextToken_154 X9 hP hD hS h
        · have h := h.2 ct
          refine lv_aload_n hx hb dX3_nextToken_142 rfl (lv_at hl 0 rfl) ?_
          refine wv_all (rn_V (rest := []) (ci := 1) hx hb hml hown hT hl.1 hC hS hP hD 0 rfl rfl rfl ck_X3_79 (c_X3_takeNumber l G cs ts a H.size X8  _ h) ⟨rfl, rfl, (Nat.le_of_ble_eq_true rfl), (Nat.le_of_ble_eq_true rfl)⟩ ⟨Nat.le_refl _, Nat.le_refl _⟩ rfl rfl (Nat.le_of_ble_eq_true rfl) dX3_nextToken_143) hD hS hA (fun X10 H locs hP hD hS h => ?_)
          refine lv_goto (tgt := 154) hx hb dX3_nextToken_146 (by decide) ?_
          exact rt_Wv hx hb hr hlk dX3_nextToken_154 X10 hP hD hS h
      · have h := h.2 ct
        refine lv_aload_n hx hb dX3_nextToken_120 rfl (lv_at hl 0 rfl) ?_
        refine wv_all (rn_V (rest := []) (ci := 1) hx hb hml hown hT hl.1 hC hS hP hD 0 rfl rfl rfl ck_X3_76 (c_X3_takeWord l G cs ts a H.size X6  _ h) ⟨rfl, rfl, (Nat.le_of_ble_eq_true rfl), (Nat.le_of_ble_eq_true rfl)⟩ ⟨Nat.le_refl _, Nat.le_refl _⟩ rfl rfl (Nat.le_of_ble_eq_true rfl) dX3_nextToken_121) hD hS hA (fun X11 H locs hP hD hS h => ?_)
        refine lv_goto (tgt := 154) hx hb dX3_nextToken_124 (by decide) ?_
        exact rt_Wv hx hb hr hlk dX3_nextToken_154 X11 hP hD hS h
    · have h := h.2 ct
      refine lv_aload_n hx hb dX3_nextToken_87 rfl (lv_at hl 0 rfl) ?_
      refine lv_iconst (v := 3) hx hb dX3_nextToken_88 (by decide) ?_
      refine pf_X3_25 hx hb hT hown hK hP hD hS 0 rfl (Nat.le_of_ble_eq_true rfl) dX3_nextToken_89 (fun H locs hP hD hS => ?_)
      obtain ⟨X12, eX12⟩ : ∃ z : ZI, z = mu X4 4 0 3 := ⟨_, rfl⟩
      have h := h X12 eX12
      have hP : va_P G vwCl (txW a cs X12) H := by rw [eX12]; exact hP
      have hD : va_D A (txW a cs X12) := by rw [eX12]; exact hD
      refine lv_aload_n hx hb dX3_nextToken_92 rfl (lv_at hl 0 rfl) ?_
      refine lv_aload_n hx hb dX3_nextToken_93 rfl (lv_at hl 0 rfl) ?_
      refine gf_X3_19 hx hb hT hown hK hP 0 rfl rfl dX3_nextToken_94 ?_
      refine lv_iconst (v := 1) hx hb dX3_nextToken_97 (by decide) ?_
      refine lv_iadd hx hb dX3_nextToken_98 ?_
      refine pf_X3_22 hx hb hT hown hK hP hD hS 0 rfl (Nat.le_of_ble_eq_true rfl) dX3_nextToken_99 (fun H locs hP hD hS => ?_)
      obtain ⟨X13, eX13⟩ : ∃ z : ZI, z = mu X12 3 0 ((X12 2 0) + 1) := ⟨_, rfl⟩
      have h := h X13 eX13
      have hP : va_P G vwCl (txW a cs X13) H := by rw [eX13]; exact hP
      have hD : va_D A (txW a cs X13) := by rw [eX13]; exact hD
      refine lv_goto (tgt := 154) hx hb dX3_nextToken_102 (by decide) ?_
      exact rt_Wv hx hb hr hlk dX3_nextToken_154 X13 hP hD hS h
  · have h := h.2 ct
    refine lv_aload_n hx hb dX3_nextToken_65 rfl (lv_at hl 0 rfl) ?_
    refine lv_iconst (v := 0) hx hb dX3_nextToken_66 (by decide) ?_
    refine pf_X3_25 hx hb hT hown hK hP hD hS 0 rfl (Nat.le_of_ble_eq_true rfl) dX3_nextToken_67 (fun H locs hP hD hS => ?_)
    obtain ⟨X14, eX14⟩ : ∃ z : ZI, z = mu X4 4 0 0 := ⟨_, rfl⟩
    have h := h X14 eX14
    have hP : va_P G vwCl (txW a cs X14) H := by rw [eX14]; exact hP
    have hD : va_D A (txW a cs X14) := by rw [eX14]; exact hD
    refine lv_goto (tgt := 154) hx hb dX3_nextToken_70 (by decide) ?_
    exact rt_Wv hx hb hr hlk dX3_nextToken_154 X14 hP hD hS h
abbrev rm_X3_numbersStand : Room := { frames := 7, cells := 0, slots := 0, locals := 147 }
set_option maxRecDepth 100000 in
set_option maxHeartbeats 4000000 in
theorem c_X3_numbersStand (l : Launch) (G : va_G) (cs ts : Nat → Nat) (a : Nat → Nat) (sz : Nat)  (X : ZI) (lk : Nat) (hlk3 : lk < 3)  (post : Int32 → ZI → Prop) (h : w_X3_numbersStand X lk post) : Met l yX3_numbersStand [.code yX3_numbersStand cX3_numbersStand 3 (some .boolean)] rm_X3_numbersStand (va_Pc [.ref (a 99), .ref (ts lk)] (CP G cs ts (txW a cs X) sz)) (va_Qi (fun (r : Int32) (u : ZI) => post r u) (CB G (va_A (txW a cs X) sz) (fun u => (txW a cs u))) (va_A (txW a cs X) sz)) 0 0 (va_A (txW a cs X) sz) := by
  refine ax_W (Qc := fun A => va_Qi (fun (r : Int32) (u : ZI) => post r u) (CB G A (fun u => (txW a cs u))) A) (by decide) (Nat.le_of_ble_eq_true rfl) sz ?_
  intro p e s m args below meth c A hx hb hr hlk hml hown hT hC hnm H locs hP hD hS ls hl
  have hK := hC.2.1
  have hA := hC.2.2
  have hl : lv_has ls 3 [(0, .ref (a 99)), (1, .ref (ts lk))] := hl
  unfold w_X3_numbersStand at h
  have HL2 : ∀ (K : ZI → Int32 → Prop), (∀ (Xv : ZI) (y2 : Int32), K Xv y2 → ∀ (H : Heap) (locs : List Loc), va_P G vwCl (txW a cs Xv) H → va_D A (txW a cs Xv) → va_S A s.heap H locs → ∀ ls : Array Slot, lv_has ls 3 [(0, .ref (a 99)), (1, .ref (ts lk)), (2, .int y2)] → W p l e rm_X3_numbersStand s m args below meth c H locs 0 0 (MQ below (va_Qi (fun (r : Int32) (u : ZI) => post r u) (CB G A (fun u => (txW a cs u))) A) args s 0 0 A) (F0 m 57 ls [])) → ∀ (n : Nat) (Xv : ZI) (y2 : Int32), itF (w_X3_numbersStand_L2 lk post K) (fun _ _ => False) n Xv y2 → ∀ (H : Heap) (locs : List Loc), va_P G vwCl (txW a cs Xv) H → va_D A (txW a cs Xv) → va_S A s.heap H locs → ∀ ls : Array Slot, lv_has ls 3 [(0, .ref (a 99)), (1, .ref (ts lk)), (2, .int y2)] → W p l e rm_X3_numbersStand s m args below meth c H locs 0 0 (MQ below (va_Qi (fun (r : Int32) (u : ZI) => post r u) (CB G A (fun u => (txW a cs u))) A) args s 0 0 A) (F0 m 2 ls []) := by
    intro K hKK n
    induction n with
    | zero =>
      intro Xv y2 h
      exact absurd h id
    | succ n ih =>
      intro Xv y2 h H locs hP hD hS ls hl
      have h : w_X3_numbersStand_L2 lk post K (itF (w_X3_numbersStand_L2 lk post K) (fun _ _ => False) n) Xv y2 := h
      generalize itF (w_X3_numbersStand_L2 lk post K) (fun _ _ => False) n = rec at h ih
      unfold w_X3_numbersStand_L2 at h
      refine lv_iload_n hx hb dX3_numbersStand_2 rfl (lv_at hl 2 rfl) ?_
      refine lv_aload_n hx hb dX3_numbersStand_3 rfl (lv_at hl 1 rfl) ?_
      refine va_tlen (v := nI (lim lk).length) hx hb (hC.1.2.2.2.2.2.1 lk hlk3) hS rfl dX3_numbersStand_4 ?_
      refine lv_icmp_ge (tgt := 57) hx hb dX3_numbersStand_5 (by decide) (fun ct => ?_) (fun ct => ?_)
      · have h := h.1 ct
        exact hKK _ _ h _ _ hP hD hS ls (lv_sub hl [0, 1, 2] rfl)
      · have h := h.2 ct
        refine lv_iload_n hx hb dX3_numbersStand_8 rfl (lv_at hl 2 rfl) ?_
        refine lv_aload_n hx hb dX3_numbersStand_9 rfl (lv_at hl 0 rfl) ?_
        refine gf_X3_31 hx hb hT hown hK hP 0 rfl rfl dX3_numbersStand_10 ?_
        refine va_alen (v := 5) hx hb hK hP 2 0 rfl rfl rfl dX3_numbersStand_13 ?_
        refine lv_icmp_ge (tgt := 57) hx hb dX3_numbersStand_14 (by decide) (fun ct => ?_) (fun ct => ?_)
        · have h := h.1 ct
          exact hKK _ _ h _ _ hP hD hS ls (lv_sub hl [0, 1, 2] rfl)
        · have h := h.2 ct
          refine lv_aload_n hx hb dX3_numbersStand_17 rfl (lv_at hl 0 rfl) ?_
          refine wv_all (rn_V (rest := []) (ci := 1) hx hb hml hown hT hl.1 hC hS hP hD 0 rfl rfl rfl ck_X3_35 (c_X3_nextToken l G cs ts a H.size Xv  _ h) ⟨rfl, rfl, (Nat.le_of_ble_eq_true rfl), (Nat.le_of_ble_eq_true rfl)⟩ ⟨Nat.le_refl _, Nat.le_refl _⟩ rfl rfl (Nat.le_of_ble_eq_true rfl) dX3_numbersStand_18) hD hS hA (fun X1 H locs hP hD hS h => ?_)
          refine lv_aload_n hx hb dX3_numbersStand_21 rfl (lv_at hl 0 rfl) ?_
          refine gf_X3_25 hx hb hT hown hK hP 0 rfl rfl dX3_numbersStand_22 ?_
          refine lv_iconst (v := 2) hx hb dX3_numbersStand_25 (by decide) ?_
          refine lv_icmp_ne (tgt := 39) hx hb dX3_numbersStand_26 (by decide) (fun ct => ?_) (fun ct => ?_)
          · have h := h.1 ct
            refine lv_iconst (v := 0) hx hb dX3_numbersStand_39 (by decide) ?_
            exact rt_Wz hx hb hr hlk dX3_numbersStand_40 rfl X1 hP hD hS h
          · have h := h.2 ct
            refine lv_aload_n hx hb dX3_numbersStand_29 rfl (lv_at hl 0 rfl) ?_
            refine gf_X3_28 hx hb hT hown hK hP 0 rfl rfl dX3_numbersStand_30 ?_
            refine lv_aload_n hx hb dX3_numbersStand_33 rfl (lv_at hl 1 rfl) ?_
            refine lv_iload_n hx hb dX3_numbersStand_34 rfl (lv_at hl 2 rfl) ?_
            obtain ⟨hi, h⟩ := h
            refine va_ti hx hb (hC.1.2.2.2.2.2.1 lk hlk3) hS hi rfl dX3_numbersStand_35 ?_
            refine lv_icmp_le (tgt := 41) hx hb dX3_numbersStand_36 (by decide) (fun ct => ?_) (fun ct => ?_)
            · have h := h.1 ct
              refine lv_aload_n hx hb dX3_numbersStand_41 rfl (lv_at hl 0 rfl) ?_
              refine gf_X3_31 hx hb hT hown hK hP 0 rfl rfl dX3_numbersStand_42 ?_
              refine lv_iload_n hx hb dX3_numbersStand_45 rfl (lv_at hl 2 rfl) ?_
              refine lv_aload_n hx hb dX3_numbersStand_46 rfl (lv_at hl 0 rfl) ?_
              refine gf_X3_28 hx hb hT hown hK hP 0 rfl rfl dX3_numbersStand_47 ?_
              obtain ⟨hi, h⟩ := h
              refine va_iast hx hb hK hP hD hS 2 0 rfl rfl hi dX3_numbersStand_50 (fun H locs hP hD hS => ?_)
              obtain ⟨X2, eX2⟩ : ∃ z : ZI, z = mu X1 6 y2.toNatClampNeg (X1 5 0) := ⟨_, rfl⟩
              have h := h X2 eX2
              have hP : va_P G vwCl (txW a cs X2) H := by rw [eX2]; exact hP
              have hD : va_D A (txW a cs X2) := by rw [eX2]; exact hD
              refine lv_iinc (v := y2 + 1) (lv' := [(2, .int (y2 + 1)), (0, .ref (a 99)), (1, .ref (ts lk))]) hx hb dX3_numbersStand_51 hl (k := 2) rfl rfl (by decide) rfl (fun ls hl => ?_)
              refine lv_goto (tgt := 2) hx hb dX3_numbersStand_54 (by decide) ?_
              exact ih _ _ h _ _ hP hD hS ls (lv_sub hl [1, 2, 0] rfl)
            · have h := h.2 ct
              refine lv_iconst (v := 0) hx hb dX3_numbersStand_39 (by decide) ?_
              exact rt_Wz hx hb hr hlk dX3_numbersStand_40 rfl X1 hP hD hS h
  refine lv_iconst (v := 0) hx hb dX3_numbersStand_0 (by decide) ?_
  refine lv_istore_n (lv' := [(2, .int 0), (0, .ref (a 99)), (1, .ref (ts lk))]) hx hb dX3_numbersStand_1 rfl hl (by decide) rfl (fun ls hl => ?_)
  obtain ⟨n5, h⟩ := h
  refine HL2  _ (fun X3 v4 h H locs hP hD hS ls hl => ?_) n5 _ _ h _ _ hP hD hS ls (lv_sub hl [1, 2, 0] rfl)
  refine lv_iconst (v := 1) hx hb dX3_numbersStand_57 (by decide) ?_
  exact rt_Wz hx hb hr hlk dX3_numbersStand_58 rfl X3 hP hD hS h
abbrev rm_X3_putItem : Room := { frames := 4, cells := 0, slots := 0, locals := 97 }
set_option maxRecDepth 100000 in
set_option maxHeartbeats 4000000 in
theorem c_X3_putItem (l : Launch) (G : va_G) (cs ts : Nat → Nat) (a b : Nat → Nat) (sz : Nat)  (X : ZI) (T : ZI)   (x1 : Int32) (post : ZI → ZI → Prop) (h : w_X3_putItem X T x1 post) : Met l yX3_putItem [.code yX3_putItem cX3_putItem 3 none] rm_X3_putItem (va_Pc [.ref (a 99), .int x1, .ref (b 99)] (CP G cs ts (xtW a b cs X T) sz)) (va_Qv (fun (u : ZI × ZI) => post u.1 u.2) (CB G (va_A (xtW a b cs X T) sz) (fun u => (xtW a b cs u.1 u.2))) (va_A (xtW a b cs X T) sz)) 0 0 (va_A (xtW a b cs X T) sz) := by
  refine ax_W (Qc := fun A => va_Qv (fun (u : ZI × ZI) => post u.1 u.2) (CB G A (fun u => (xtW a b cs u.1 u.2))) A) (by decide) (Nat.le_of_ble_eq_true rfl) sz ?_
  intro p e s m args below meth c A hx hb hr hlk hml hown hT hC hnm H locs hP hD hS ls hl
  have hK := hC.2.1
  have hA := hC.2.2
  have hl : lv_has ls 3 [(0, .ref (a 99)), (1, .int x1), (2, .ref (b 99))] := hl
  unfold w_X3_putItem at h
  refine lv_iload_n hx hb dX3_putItem_0 rfl (lv_at hl 1 rfl) ?_
  by_cases c0 : x1 = 0
  · have h := h.1 c0
    refine lv_lookup (tgt := 28) (off := 27) hx hb dX3_putItem_1 (by decide) (by rw [c0]; decide) (by decide) ?_
    refine lv_aload_n hx hb dX3_putItem_28 rfl (lv_at hl 2 rfl) ?_
    refine lv_aload_n hx hb dX3_putItem_29 rfl (lv_at hl 0 rfl) ?_
    refine gf_X3_31 hx hb hT hown hK hP 0 rfl rfl dX3_putItem_30 ?_
    refine lv_iconst (v := 0) hx hb dX3_putItem_33 (by decide) ?_
    have hi : vp_in 0 5 := by unfold vp_in; decide
    refine va_iald hx hb hK hP 2 0 rfl rfl hi dX3_putItem_34 ?_
    refine wv_part (wr := List.filterMap (fun i : Nat => (xtW a b cs X T)[i]?) [0, 1, 2]) (w2 := fun u => (xtW a b cs X u)) [3, 4, 5, 6, 7, 8, 9, 10] [0, 1, 2] [0, 1, 2, 3, 4, 5, 6, 7, 8, 9, 10] (rn_VN (rest := []) (ci := 0) (wc := (tbW b cs T)) hx hb hml hown hT hl.1 hC hS (hP.sub [3, 4, 5, 6, 7, 8, 9, 10] rfl) (hD.sub [3, 4, 5, 6, 7, 8, 9, 10] (by decide) rfl) 0 rfl rfl rfl ck_X3_59 (c_X2_beginAnew l G cs ts b H.size T (X 6 0) _ h) ⟨rfl, rfl, (Nat.le_of_ble_eq_true rfl), (Nat.le_of_ble_eq_true rfl)⟩ ⟨Nat.le_refl _, Nat.le_refl _⟩ rfl rfl (Nat.le_of_ble_eq_true rfl) dX3_putItem_35) hP hD hS hA rfl rfl rfl (by decide) rfl (fun _ => rfl) (fun T1 H locs hP hD hS h => ?_)
    refine lv_goto (tgt := 125) hx hb dX3_putItem_38 (by decide) ?_
    exact rt_Wv hx hb hr hlk dX3_putItem_125 (X, T1) hP hD hS h
  · have h := h.2 c0
    by_cases c1 : x1 = 1
    · have h := h.1 c1
      refine lv_lookup (tgt := 41) (off := 40) hx hb dX3_putItem_1 (by decide) (by rw [c1]; decide) (by decide) ?_
      refine lv_aload_n hx hb dX3_putItem_41 rfl (lv_at hl 2 rfl) ?_
      refine gf_X3_65 hx hb hT hown hK hP 3 rfl rfl dX3_putItem_42 ?_
      refine lv_aload_n hx hb dX3_putItem_45 rfl (lv_at hl 0 rfl) ?_
      refine gf_X3_31 hx hb hT hown hK hP 0 rfl rfl dX3_putItem_46 ?_
      refine lv_iconst (v := 0) hx hb dX3_putItem_49 (by decide) ?_
      have hi : vp_in 0 5 := by unfold vp_in; decide
      refine va_iald hx hb hK hP 2 0 rfl rfl hi dX3_putItem_50 ?_
      refine lv_aload_n hx hb dX3_putItem_51 rfl (lv_at hl 0 rfl) ?_
      refine gf_X3_31 hx hb hT hown hK hP 0 rfl rfl dX3_putItem_52 ?_
      refine lv_iconst (v := 1) hx hb dX3_putItem_55 (by decide) ?_
      have hi : vp_in 1 5 := by unfold vp_in; decide
      refine va_iald hx hb hK hP 2 0 rfl rfl hi dX3_putItem_56 ?_
      refine lv_aload_n hx hb dX3_putItem_57 rfl (lv_at hl 0 rfl) ?_
      refine gf_X3_31 hx hb hT hown hK hP 0 rfl rfl dX3_putItem_58 ?_
      refine lv_iconst (v := 2) hx hb dX3_putItem_61 (by decide) ?_
      have hi : vp_in 2 5 := by unfold vp_in; decide
      refine va_iald hx hb hK hP 2 0 rfl rfl hi dX3_putItem_62 ?_
      refine lv_iconst (v := 4) hx hb dX3_putItem_63 (by decide) ?_
      refine lv_ishl hx hb dX3_putItem_64 ?_
      refine lv_ior hx hb dX3_putItem_65 ?_
      refine lv_aload_n hx hb dX3_putItem_66 rfl (lv_at hl 0 rfl) ?_
      refine gf_X3_31 hx hb hT hown hK hP 0 rfl rfl dX3_putItem_67 ?_
      refine lv_iconst (v := 3) hx hb dX3_putItem_70 (by decide) ?_
      have hi : vp_in 3 5 := by unfold vp_in; decide
      refine va_iald hx hb hK hP 2 0 rfl rfl hi dX3_putItem_71 ?_
      refine lv_bipush (v := 8) hx hb dX3_putItem_72 (by decide) ?_
      refine lv_ishl hx hb dX3_putItem_74 ?_
      refine lv_ior hx hb dX3_putItem_75 ?_
      refine lv_aload_n hx hb dX3_putItem_76 rfl (lv_at hl 0 rfl) ?_
      refine gf_X3_31 hx hb hT hown hK hP 0 rfl rfl dX3_putItem_77 ?_
      refine lv_iconst (v := 4) hx hb dX3_putItem_80 (by decide) ?_
      have hi : vp_in 4 5 := by unfold vp_in; decide
      refine va_iald hx hb hK hP 2 0 rfl rfl hi dX3_putItem_81 ?_
      refine lv_bipush (v := 12) hx hb dX3_putItem_82 (by decide) ?_
      refine lv_ishl hx hb dX3_putItem_84 ?_
      refine lv_ior hx hb dX3_putItem_85 ?_
      obtain ⟨hi, h⟩ := h
      refine va_iast hx hb hK hP hD hS 4 0 rfl rfl hi dX3_putItem_86 (fun H locs hP hD hS => ?_)
      obtain ⟨T2, eT2⟩ : ∃ z : ZI, z = mu T 0 (X 6 0).toNatClampNeg ((((X 6 1) ||| ((X 6 2) <<< (4 &&& 31))) ||| ((X 6 3) <<< (8 &&& 31))) ||| ((X 6 4) <<< (12 &&& 31))) := ⟨_, rfl⟩
      have h := h T2 eT2
      have hP : va_P G vwCl (xtW a b cs X T2) H := by rw [eT2]; exact hP
      have hD : va_D A (xtW a b cs X T2) := by rw [eT2]; exact hD
      refine lv_goto (tgt := 125) hx hb dX3_putItem_87 (by decide) ?_
      exact rt_Wv hx hb hr hlk dX3_putItem_125 (X, T2) hP hD hS h
    · have h := h.2 c1
      refine lv_lookup (tgt := 90) (off := 89) hx hb dX3_putItem_1 (by decide) ((lv_osw c0 (by decide)).trans ((lv_osw c1 (by decide)).trans rfl)) (by decide) ?_
      refine lv_aload_n hx hb dX3_putItem_90 rfl (lv_at hl 2 rfl) ?_
      refine lv_aload_n hx hb dX3_putItem_91 rfl (lv_at hl 0 rfl) ?_
      refine gf_X3_31 hx hb hT hown hK hP 0 rfl rfl dX3_putItem_92 ?_
      refine lv_iconst (v := 0) hx hb dX3_putItem_95 (by decide) ?_
      have hi : vp_in 0 5 := by unfold vp_in; decide
      refine va_iald hx hb hK hP 2 0 rfl rfl hi dX3_putItem_96 ?_
      refine lv_aload_n hx hb dX3_putItem_97 rfl (lv_at hl 0 rfl) ?_
      refine gf_X3_31 hx hb hT hown hK hP 0 rfl rfl dX3_putItem_98 ?_
      refine lv_iconst (v := 1) hx hb dX3_putItem_101 (by decide) ?_
      have hi : vp_in 1 5 := by unfold vp_in; decide
      refine va_iald hx hb hK hP 2 0 rfl rfl hi dX3_putItem_102 ?_
      refine lv_aload_n hx hb dX3_putItem_103 rfl (lv_at hl 0 rfl) ?_
      refine gf_X3_31 hx hb hT hown hK hP 0 rfl rfl dX3_putItem_104 ?_
      refine lv_iconst (v := 2) hx hb dX3_putItem_107 (by decide) ?_
      have hi : vp_in 2 5 := by unfold vp_in; decide
      refine va_iald hx hb hK hP 2 0 rfl rfl hi dX3_putItem_108 ?_
      refine lv_aload_n hx hb dX3_putItem_109 rfl (lv_at hl 0 rfl) ?_
      refine gf_X3_31 hx hb hT hown hK hP 0 rfl rfl dX3_putItem_110 ?_
      refine lv_iconst (v := 3) hx hb dX3_putItem_113 (by decide) ?_
      have hi : vp_in 3 5 := by unfold vp_in; decide
      refine va_iald hx hb hK hP 2 0 rfl rfl hi dX3_putItem_114 ?_
      refine lv_aload_n hx hb dX3_putItem_115 rfl (lv_at hl 0 rfl) ?_
      refine gf_X3_31 hx hb hT hown hK hP 0 rfl rfl dX3_putItem_116 ?_
      refine lv_iconst (v := 4) hx hb dX3_putItem_119 (by decide) ?_
      have hi : vp_in 4 5 := by unfold vp_in; decide
      refine va_iald hx hb hK hP 2 0 rfl rfl hi dX3_putItem_120 ?_
      refine wi_part (wr := List.filterMap (fun i : Nat => (xtW a b cs X T)[i]?) [0, 1, 2]) (w2 := fun u => (xtW a b cs X u)) [3, 4, 5, 6, 7, 8, 9, 10] [0, 1, 2] [0, 1, 2, 3, 4, 5, 6, 7, 8, 9, 10] (rn_VN (rest := []) (ci := 0) (wc := (tbW b cs T)) hx hb hml hown hT hl.1 hC hS (hP.sub [3, 4, 5, 6, 7, 8, 9, 10] rfl) (hD.sub [3, 4, 5, 6, 7, 8, 9, 10] (by decide) rfl) 0 rfl rfl rfl ck_X3_68 (c_X2_putPrint l G cs ts b H.size T (X 6 0) (X 6 1) (X 6 2) (X 6 3) (X 6 4) _ h) ⟨rfl, rfl, (Nat.le_of_ble_eq_true rfl), (Nat.le_of_ble_eq_true rfl)⟩ ⟨Nat.le_refl _, Nat.le_refl _⟩ rfl rfl (Nat.le_of_ble_eq_true rfl) dX3_putItem_121) hP hD hS hA rfl rfl rfl (by decide) rfl (fun _ => rfl) (fun r3 T4 H locs hP hD hS h => ?_)
      refine lv_pop hx hb dX3_putItem_124 rfl ?_
      exact rt_Wv hx hb hr hlk dX3_putItem_125 (X, T4) hP hD hS h
abbrev rm_X3_readInto : Room := { frames := 8, cells := 0, slots := 0, locals := 169 }
set_option maxRecDepth 100000 in
set_option maxHeartbeats 4000000 in
theorem c_X3_readInto (l : Launch) (G : va_G) (cs ts : Nat → Nat) (a b : Nat → Nat) (sz : Nat)  (X : ZI) (T : ZI)    (post : Int32 → ZI → ZI → Prop) (h : w_X3_readInto X T post) : Met l yX3_readInto [.code yX3_readInto cX3_readInto 5 (some .int)] rm_X3_readInto (va_Pc [.ref (a 99), .ref (b 99)] (CP G cs ts (xtW a b cs X T) sz)) (va_Qi (fun (r : Int32) (u : ZI × ZI) => post r u.1 u.2) (CB G (va_A (xtW a b cs X T) sz) (fun u => (xtW a b cs u.1 u.2))) (va_A (xtW a b cs X T) sz)) 0 0 (va_A (xtW a b cs X T) sz) := by
  refine ax_W (Qc := fun A => va_Qi (fun (r : Int32) (u : ZI × ZI) => post r u.1 u.2) (CB G A (fun u => (xtW a b cs u.1 u.2))) A) (by decide) (Nat.le_of_ble_eq_true rfl) sz ?_
  intro p e s m args below meth c A hx hb hr hlk hml hown hT hC hnm H locs hP hD hS ls hl
  have hK := hC.2.1
  have hA := hC.2.2
  have hl : lv_has ls 5 [(0, .ref (a 99)), (1, .ref (b 99))] := hl
  unfold w_X3_readInto at h
  have HL9 : ∀ (K : ZI → ZI → Int32 → Int32 → Prop), (∀ (Xv : ZI) (Tv : ZI) (y2 : Int32) (y3 : Int32), K Xv Tv y2 y3 → ∀ (H : Heap) (locs : List Loc), va_P G vwCl (xtW a b cs Xv Tv) H → va_D A (xtW a b cs Xv Tv) → va_S A s.heap H locs → ∀ ls : Array Slot, lv_has ls 5 [(0, .ref (a 99)), (1, .ref (b 99)), (2, .int y2), (3, .int y3)] → W p l e rm_X3_readInto s m args below meth c H locs 0 0 (MQ below (va_Qi (fun (r : Int32) (u : ZI × ZI) => post r u.1 u.2) (CB G A (fun u => (xtW a b cs u.1 u.2))) A) args s 0 0 A) (F0 m 125 ls [])) → ∀ (n : Nat) (Xv : ZI) (Tv : ZI) (y2 : Int32) (y3 : Int32), itF (w_X3_readInto_L9  post K) (fun _ _ _ _ => False) n Xv Tv y2 y3 → ∀ (H : Heap) (locs : List Loc), va_P G vwCl (xtW a b cs Xv Tv) H → va_D A (xtW a b cs Xv Tv) → va_S A s.heap H locs → ∀ ls : Array Slot, lv_has ls 5 [(0, .ref (a 99)), (1, .ref (b 99)), (2, .int y2), (3, .int y3)] → W p l e rm_X3_readInto s m args below meth c H locs 0 0 (MQ below (va_Qi (fun (r : Int32) (u : ZI × ZI) => post r u.1 u.2) (CB G A (fun u => (xtW a b cs u.1 u.2))) A) args s 0 0 A) (F0 m 9 ls []) := by
    intro K hKK n
    induction n with
    | zero =>
      intro Xv Tv y2 y3 h
      exact absurd h id
    | succ n ih =>
      intro Xv Tv y2 y3 h H locs hP hD hS ls hl
      have h : w_X3_readInto_L9  post K (itF (w_X3_readInto_L9  post K) (fun _ _ _ _ => False) n) Xv Tv y2 y3 := h
      generalize itF (w_X3_readInto_L9  post K) (fun _ _ _ _ => False) n = rec at h ih
      unfold w_X3_readInto_L9 at h
      refine lv_iload_n hx hb dX3_readInto_9 rfl (lv_at hl 3 rfl) ?_
      refine lv_sipush (v := 150) hx hb dX3_readInto_10 (by decide) ?_
      refine lv_icmp_gt (tgt := 125) hx hb dX3_readInto_13 (by decide) (fun ct => ?_) (fun ct => ?_)
      · have h := h.1 ct
        exact hKK _ _ _ _ h _ _ hP hD hS ls (lv_sub hl [0, 1, 2, 3] rfl)
      · have h := h.2 ct
        refine lv_aload_n hx hb dX3_readInto_16 rfl (lv_at hl 0 rfl) ?_
        refine wv_part (wr := List.filterMap (fun i : Nat => (xtW a b cs Xv Tv)[i]?) [3, 4, 5, 6, 7, 8, 9, 10]) (w2 := fun u => (xtW a b cs u Tv)) [0, 1, 2] [3, 4, 5, 6, 7, 8, 9, 10] [8, 9, 10, 0, 1, 2, 3, 4, 5, 6, 7] (rn_V (rest := []) (ci := 1) (wc := (txW a cs Xv)) hx hb hml hown hT hl.1 hC hS (hP.sub [0, 1, 2] rfl) (hD.sub [0, 1, 2] (by decide) rfl) 0 rfl rfl rfl ck_X3_35 (c_X3_nextToken l G cs ts a H.size Xv  _ h) ⟨rfl, rfl, (Nat.le_of_ble_eq_true rfl), (Nat.le_of_ble_eq_true rfl)⟩ ⟨Nat.le_refl _, Nat.le_refl _⟩ rfl rfl (Nat.le_of_ble_eq_true rfl) dX3_readInto_17) hP hD hS hA rfl rfl rfl (by decide) rfl (fun _ => rfl) (fun X2 H locs hP hD hS h => ?_)
        refine lv_aload_n hx hb dX3_readInto_20 rfl (lv_at hl 0 rfl) ?_
        refine gf_X3_25 hx hb hT hown hK hP 0 rfl rfl dX3_readInto_21 ?_
        refine lv_if_ne (tgt := 33) hx hb dX3_readInto_24 (by decide) (fun ct => ?_) (fun ct => ?_)
        · have h := h.1 ct
          refine lv_aload_n hx hb dX3_readInto_33 rfl (lv_at hl 0 rfl) ?_
          refine gf_X3_28 hx hb hT hown hK hP 0 rfl rfl dX3_readInto_34 ?_
          refine lv_topi (fun v3 ev3 => ?_)
          have h := h v3 ev3
          refine lv_istore (lv' := [(4, .int v3), (0, .ref (a 99)), (1, .ref (b 99)), (2, .int y2), (3, .int y3)]) hx hb dX3_readInto_37 hl (by decide) rfl (fun ls hl => ?_)
          refine lv_aload_n hx hb dX3_readInto_39 rfl (lv_at hl 1 rfl) ?_
          refine gf_X3_25 hx hb hT hown hK hP 0 rfl rfl dX3_readInto_40 ?_
          refine lv_iconst (v := 1) hx hb dX3_readInto_43 (by decide) ?_
          refine lv_icmp_ne (tgt := 81) hx hb dX3_readInto_44 (by decide) (fun ct => ?_) (fun ct => ?_)
          · have h := h.1 ct
            refine lv_bipush (v := (-10)) hx hb dX3_readInto_81 (by decide) ?_
            refine lv_aload_n hx hb dX3_readInto_83 rfl (lv_at hl 1 rfl) ?_
            refine gf_X3_19 hx hb hT hown hK hP 0 rfl rfl dX3_readInto_84 ?_
            refine lv_isub hx hb dX3_readInto_87 ?_
            exact rt_Wi hx hb hr hlk dX3_readInto_88 (X2, Tv) hP hD hS h
          · have h := h.2 ct
            refine lv_iload hx hb dX3_readInto_47 (lv_at hl 0 rfl) ?_
            refine lv_if_ne (tgt := 56) hx hb dX3_readInto_49 (by decide) (fun ct => ?_) (fun ct => ?_)
            · have h := h.1 ct
              refine lv_iconst (v := 0) hx hb dX3_readInto_56 (by decide) ?_
              refine lv_iload_n hx hb dX3_readInto_57 rfl (lv_at hl 3 rfl) ?_
              refine lv_if_ne (tgt := 65) hx hb dX3_readInto_58 (by decide) (fun ct => ?_) (fun ct => ?_)
              · have h := h.1 ct
                refine lv_iconst (v := 0) hx hb dX3_readInto_65 (by decide) ?_
                refine lv_icmp_ne (tgt := 81) hx hb dX3_readInto_66 (by decide) (fun ct => absurd (by decide) ct) (fun _ => ?_)
                refine lv_aload_n hx hb dX3_readInto_69 rfl (lv_at hl 1 rfl) ?_
                refine lv_iload hx hb dX3_readInto_70 (lv_at hl 0 rfl) ?_
                refine cl_Sr (rn_SX (rest := [.ref (a 99)]) hx hb hml hown hT hl.1 hC.1 hS ck_X3_38 (c_X3_limitsOf l ts v3) ⟨rfl, rfl, (Nat.le_of_ble_eq_true rfl), (Nat.le_of_ble_eq_true rfl)⟩ ⟨Nat.zero_le _, Nat.zero_le _⟩ rfl rfl (Nat.le_of_ble_eq_true rfl) dX3_readInto_72) (fun k4 ek4 => ?_)
                have h := h k4 ek4
                refine wi_part (wr := List.filterMap (fun i : Nat => (xtW a b cs X2 Tv)[i]?) [3, 4, 5, 6, 7, 8, 9, 10]) (w2 := fun u => (xtW a b cs u Tv)) [0, 1, 2] [3, 4, 5, 6, 7, 8, 9, 10] [8, 9, 10, 0, 1, 2, 3, 4, 5, 6, 7] (rn_V (rest := []) (ci := 1) (wc := (txW a cs X2)) hx hb hml hown hT hl.1 hC hS (hP.sub [0, 1, 2] rfl) (hD.sub [0, 1, 2] (by decide) rfl) 0 rfl rfl rfl ck_X3_42 (c_X3_numbersStand l G cs ts a H.size X2 k4 (by rw [ek4]; exact limK_lt _)  _ h) ⟨rfl, rfl, (Nat.le_of_ble_eq_true rfl), (Nat.le_of_ble_eq_true rfl)⟩ ⟨Nat.le_refl _, Nat.le_refl _⟩ rfl rfl (Nat.le_of_ble_eq_true rfl) dX3_readInto_75) hP hD hS hA rfl rfl rfl (by decide) rfl (fun _ => rfl) (fun r5 X6 H locs hP hD hS h => ?_)
                refine lv_if_ne (tgt := 89) hx hb dX3_readInto_78 (by decide) (fun ct => ?_) (fun ct => ?_)
                · have h := h.1 ct
                  refine lv_aload_n hx hb dX3_readInto_89 rfl (lv_at hl 1 rfl) ?_
                  refine wv_part (wr := List.filterMap (fun i : Nat => (xtW a b cs X6 Tv)[i]?) [3, 4, 5, 6, 7, 8, 9, 10]) (w2 := fun u => (xtW a b cs u Tv)) [0, 1, 2] [3, 4, 5, 6, 7, 8, 9, 10] [8, 9, 10, 0, 1, 2, 3, 4, 5, 6, 7] (rn_V (rest := []) (ci := 1) (wc := (txW a cs X6)) hx hb hml hown hT hl.1 hC hS (hP.sub [0, 1, 2] rfl) (hD.sub [0, 1, 2] (by decide) rfl) 0 rfl rfl rfl ck_X3_35 (c_X3_nextToken l G cs ts a H.size X6  _ h) ⟨rfl, rfl, (Nat.le_of_ble_eq_true rfl), (Nat.le_of_ble_eq_true rfl)⟩ ⟨Nat.le_refl _, Nat.le_refl _⟩ rfl rfl (Nat.le_of_ble_eq_true rfl) dX3_readInto_90) hP hD hS hA rfl rfl rfl (by decide) rfl (fun _ => rfl) (fun X7 H locs hP hD hS h => ?_)
                  refine lv_aload_n hx hb dX3_readInto_93 rfl (lv_at hl 1 rfl) ?_
                  refine gf_X3_25 hx hb hT hown hK hP 0 rfl rfl dX3_readInto_94 ?_
                  refine lv_iconst (v := 3) hx hb dX3_readInto_97 (by decide) ?_
                  refine lv_icmp_eq (tgt := 109) hx hb dX3_readInto_98 (by decide) (fun ct => ?_) (fun ct => ?_)
                  · have h := h.1 ct
                    refine lv_aload_n hx hb dX3_readInto_109 rfl (lv_at hl 1 rfl) ?_
                    refine lv_iload hx hb dX3_readInto_110 (lv_at hl 0 rfl) ?_
                    refine lv_aload_n hx hb dX3_readInto_112 rfl (lv_at hl 2 rfl) ?_
                    refine wv_allXT (rn_V (rest := []) (ci := 1) hx hb hml hown hT hl.1 hC hS hP hD 0 rfl rfl rfl ck_X3_46 (c_X3_putItem l G cs ts a b H.size X7 Tv v3 _ h) ⟨rfl, rfl, (Nat.le_of_ble_eq_true rfl), (Nat.le_of_ble_eq_true rfl)⟩ ⟨Nat.le_refl _, Nat.le_refl _⟩ rfl rfl (Nat.le_of_ble_eq_true rfl) dX3_readInto_113) hD hS hA (fun X8 T9 H locs hP hD hS h => ?_)
                    refine lv_iinc (v := y2 + 1) (lv' := [(2, .int (y2 + 1)), (4, .int v3), (0, .ref (a 99)), (1, .ref (b 99)), (3, .int y3)]) hx hb dX3_readInto_116 hl (k := 3) rfl rfl (by decide) rfl (fun ls hl => ?_)
                    refine lv_iinc (v := y3 + 1) (lv' := [(3, .int (y3 + 1)), (2, .int (y2 + 1)), (4, .int v3), (0, .ref (a 99)), (1, .ref (b 99))]) hx hb dX3_readInto_119 hl (k := 4) rfl rfl (by decide) rfl (fun ls hl => ?_)
                    refine lv_goto (tgt := 9) hx hb dX3_readInto_122 (by decide) ?_
                    exact ih _ _ _ _ h _ _ hP hD hS ls (lv_sub hl [3, 4, 1, 0] rfl)
                  · have h := h.2 ct
                    refine lv_bipush (v := (-10)) hx hb dX3_readInto_101 (by decide) ?_
                    refine lv_aload_n hx hb dX3_readInto_103 rfl (lv_at hl 1 rfl) ?_
                    refine gf_X3_19 hx hb hT hown hK hP 0 rfl rfl dX3_readInto_104 ?_
                    refine lv_isub hx hb dX3_readInto_107 ?_
                    exact rt_Wi hx hb hr hlk dX3_readInto_108 (X7, Tv) hP hD hS h
                · have h := h.2 ct
                  refine lv_bipush (v := (-10)) hx hb dX3_readInto_81 (by decide) ?_
                  refine lv_aload_n hx hb dX3_readInto_83 rfl (lv_at hl 1 rfl) ?_
                  refine gf_X3_19 hx hb hT hown hK hP 0 rfl rfl dX3_readInto_84 ?_
                  refine lv_isub hx hb dX3_readInto_87 ?_
                  exact rt_Wi hx hb hr hlk dX3_readInto_88 (X6, Tv) hP hD hS h
              · have h := h.2 ct
                refine lv_iconst (v := 1) hx hb dX3_readInto_61 (by decide) ?_
                refine lv_goto (tgt := 66) hx hb dX3_readInto_62 (by decide) ?_
                refine lv_icmp_ne (tgt := 81) hx hb dX3_readInto_66 (by decide) (fun _ => ?_) (fun ct => absurd ct (by decide))
                refine lv_bipush (v := (-10)) hx hb dX3_readInto_81 (by decide) ?_
                refine lv_aload_n hx hb dX3_readInto_83 rfl (lv_at hl 1 rfl) ?_
                refine gf_X3_19 hx hb hT hown hK hP 0 rfl rfl dX3_readInto_84 ?_
                refine lv_isub hx hb dX3_readInto_87 ?_
                exact rt_Wi hx hb hr hlk dX3_readInto_88 (X2, Tv) hP hD hS h
            · have h := h.2 ct
              refine lv_iconst (v := 1) hx hb dX3_readInto_52 (by decide) ?_
              refine lv_goto (tgt := 57) hx hb dX3_readInto_53 (by decide) ?_
              refine lv_iload_n hx hb dX3_readInto_57 rfl (lv_at hl 3 rfl) ?_
              refine lv_if_ne (tgt := 65) hx hb dX3_readInto_58 (by decide) (fun ct => ?_) (fun ct => ?_)
              · have h := h.1 ct
                refine lv_iconst (v := 0) hx hb dX3_readInto_65 (by decide) ?_
                refine lv_icmp_ne (tgt := 81) hx hb dX3_readInto_66 (by decide) (fun _ => ?_) (fun ct => absurd ct (by decide))
                refine lv_bipush (v := (-10)) hx hb dX3_readInto_81 (by decide) ?_
                refine lv_aload_n hx hb dX3_readInto_83 rfl (lv_at hl 1 rfl) ?_
                refine gf_X3_19 hx hb hT hown hK hP 0 rfl rfl dX3_readInto_84 ?_
                refine lv_isub hx hb dX3_readInto_87 ?_
                exact rt_Wi hx hb hr hlk dX3_readInto_88 (X2, Tv) hP hD hS h
              · have h := h.2 ct
                refine lv_iconst (v := 1) hx hb dX3_readInto_61 (by decide) ?_
                refine lv_goto (tgt := 66) hx hb dX3_readInto_62 (by decide) ?_
                refine lv_icmp_ne (tgt := 81) hx hb dX3_readInto_66 (by decide) (fun ct => absurd (by decide) ct) (fun _ => ?_)
                refine lv_aload_n hx hb dX3_readInto_69 rfl (lv_at hl 1 rfl) ?_
                refine lv_iload hx hb dX3_readInto_70 (lv_at hl 0 rfl) ?_
                refine cl_Sr (rn_SX (rest := [.ref (a 99)]) hx hb hml hown hT hl.1 hC.1 hS ck_X3_38 (c_X3_limitsOf l ts v3) ⟨rfl, rfl, (Nat.le_of_ble_eq_true rfl), (Nat.le_of_ble_eq_true rfl)⟩ ⟨Nat.zero_le _, Nat.zero_le _⟩ rfl rfl (Nat.le_of_ble_eq_true rfl) dX3_readInto_72) (fun k10 ek10 => ?_)
                have h := h k10 ek10
                refine wi_part (wr := List.filterMap (fun i : Nat => (xtW a b cs X2 Tv)[i]?) [3, 4, 5, 6, 7, 8, 9, 10]) (w2 := fun u => (xtW a b cs u Tv)) [0, 1, 2] [3, 4, 5, 6, 7, 8, 9, 10] [8, 9, 10, 0, 1, 2, 3, 4, 5, 6, 7] (rn_V (rest := []) (ci := 1) (wc := (txW a cs X2)) hx hb hml hown hT hl.1 hC hS (hP.sub [0, 1, 2] rfl) (hD.sub [0, 1, 2] (by decide) rfl) 0 rfl rfl rfl ck_X3_42 (c_X3_numbersStand l G cs ts a H.size X2 k10 (by rw [ek10]; exact limK_lt _)  _ h) ⟨rfl, rfl, (Nat.le_of_ble_eq_true rfl), (Nat.le_of_ble_eq_true rfl)⟩ ⟨Nat.le_refl _, Nat.le_refl _⟩ rfl rfl (Nat.le_of_ble_eq_true rfl) dX3_readInto_75) hP hD hS hA rfl rfl rfl (by decide) rfl (fun _ => rfl) (fun r11 X12 H locs hP hD hS h => ?_)
                refine lv_if_ne (tgt := 89) hx hb dX3_readInto_78 (by decide) (fun ct => ?_) (fun ct => ?_)
                · have h := h.1 ct
                  refine lv_aload_n hx hb dX3_readInto_89 rfl (lv_at hl 1 rfl) ?_
                  refine wv_part (wr := List.filterMap (fun i : Nat => (xtW a b cs X12 Tv)[i]?) [3, 4, 5, 6, 7, 8, 9, 10]) (w2 := fun u => (xtW a b cs u Tv)) [0, 1, 2] [3, 4, 5, 6, 7, 8, 9, 10] [8, 9, 10, 0, 1, 2, 3, 4, 5, 6, 7] (rn_V (rest := []) (ci := 1) (wc := (txW a cs X12)) hx hb hml hown hT hl.1 hC hS (hP.sub [0, 1, 2] rfl) (hD.sub [0, 1, 2] (by decide) rfl) 0 rfl rfl rfl ck_X3_35 (c_X3_nextToken l G cs ts a H.size X12  _ h) ⟨rfl, rfl, (Nat.le_of_ble_eq_true rfl), (Nat.le_of_ble_eq_true rfl)⟩ ⟨Nat.le_refl _, Nat.le_refl _⟩ rfl rfl (Nat.le_of_ble_eq_true rfl) dX3_readInto_90) hP hD hS hA rfl rfl rfl (by decide) rfl (fun _ => rfl) (fun X13 H locs hP hD hS h => ?_)
                  refine lv_aload_n hx hb dX3_readInto_93 rfl (lv_at hl 1 rfl) ?_
                  refine gf_X3_25 hx hb hT hown hK hP 0 rfl rfl dX3_readInto_94 ?_
                  refine lv_iconst (v := 3) hx hb dX3_readInto_97 (by decide) ?_
                  refine lv_icmp_eq (tgt := 109) hx hb dX3_readInto_98 (by decide) (fun ct => ?_) (fun ct => ?_)
                  · have h := h.1 ct
                    refine lv_aload_n hx hb dX3_readInto_109 rfl (lv_at hl 1 rfl) ?_
                    refine lv_iload hx hb dX3_readInto_110 (lv_at hl 0 rfl) ?_
                    refine lv_aload_n hx hb dX3_readInto_112 rfl (lv_at hl 2 rfl) ?_
                    refine wv_allXT (rn_V (rest := []) (ci := 1) hx hb hml hown hT hl.1 hC hS hP hD 0 rfl rfl rfl ck_X3_46 (c_X3_putItem l G cs ts a b H.size X13 Tv v3 _ h) ⟨rfl, rfl, (Nat.le_of_ble_eq_true rfl), (Nat.le_of_ble_eq_true rfl)⟩ ⟨Nat.le_refl _, Nat.le_refl _⟩ rfl rfl (Nat.le_of_ble_eq_true rfl) dX3_readInto_113) hD hS hA (fun X14 T15 H locs hP hD hS h => ?_)
                    refine lv_iinc (v := y2 + 1) (lv' := [(2, .int (y2 + 1)), (4, .int v3), (0, .ref (a 99)), (1, .ref (b 99)), (3, .int y3)]) hx hb dX3_readInto_116 hl (k := 3) rfl rfl (by decide) rfl (fun ls hl => ?_)
                    refine lv_iinc (v := y3 + 1) (lv' := [(3, .int (y3 + 1)), (2, .int (y2 + 1)), (4, .int v3), (0, .ref (a 99)), (1, .ref (b 99))]) hx hb dX3_readInto_119 hl (k := 4) rfl rfl (by decide) rfl (fun ls hl => ?_)
                    refine lv_goto (tgt := 9) hx hb dX3_readInto_122 (by decide) ?_
                    exact ih _ _ _ _ h _ _ hP hD hS ls (lv_sub hl [3, 4, 1, 0] rfl)
                  · have h := h.2 ct
                    refine lv_bipush (v := (-10)) hx hb dX3_readInto_101 (by decide) ?_
                    refine lv_aload_n hx hb dX3_readInto_103 rfl (lv_at hl 1 rfl) ?_
                    refine gf_X3_19 hx hb hT hown hK hP 0 rfl rfl dX3_readInto_104 ?_
                    refine lv_isub hx hb dX3_readInto_107 ?_
                    exact rt_Wi hx hb hr hlk dX3_readInto_108 (X13, Tv) hP hD hS h
                · have h := h.2 ct
                  refine lv_bipush (v := (-10)) hx hb dX3_readInto_81 (by decide) ?_
                  refine lv_aload_n hx hb dX3_readInto_83 rfl (lv_at hl 1 rfl) ?_
                  refine gf_X3_19 hx hb hT hown hK hP 0 rfl rfl dX3_readInto_84 ?_
                  refine lv_isub hx hb dX3_readInto_87 ?_
                  exact rt_Wi hx hb hr hlk dX3_readInto_88 (X12, Tv) hP hD hS h
        · have h := h.2 ct
          refine lv_iload_n hx hb dX3_readInto_27 rfl (lv_at hl 2 rfl) ?_
          refine lv_if_le (tgt := 33) hx hb dX3_readInto_28 (by decide) (fun ct => ?_) (fun ct => ?_)
          · have h := h.1 ct
            refine lv_aload_n hx hb dX3_readInto_33 rfl (lv_at hl 0 rfl) ?_
            refine gf_X3_28 hx hb hT hown hK hP 0 rfl rfl dX3_readInto_34 ?_
            refine lv_topi (fun v16 ev16 => ?_)
            have h := h v16 ev16
            refine lv_istore (lv' := [(4, .int v16), (0, .ref (a 99)), (1, .ref (b 99)), (2, .int y2), (3, .int y3)]) hx hb dX3_readInto_37 hl (by decide) rfl (fun ls hl => ?_)
            refine lv_aload_n hx hb dX3_readInto_39 rfl (lv_at hl 1 rfl) ?_
            refine gf_X3_25 hx hb hT hown hK hP 0 rfl rfl dX3_readInto_40 ?_
            refine lv_iconst (v := 1) hx hb dX3_readInto_43 (by decide) ?_
            refine lv_icmp_ne (tgt := 81) hx hb dX3_readInto_44 (by decide) (fun ct => ?_) (fun ct => ?_)
            · have h := h.1 ct
              refine lv_bipush (v := (-10)) hx hb dX3_readInto_81 (by decide) ?_
              refine lv_aload_n hx hb dX3_readInto_83 rfl (lv_at hl 1 rfl) ?_
              refine gf_X3_19 hx hb hT hown hK hP 0 rfl rfl dX3_readInto_84 ?_
              refine lv_isub hx hb dX3_readInto_87 ?_
              exact rt_Wi hx hb hr hlk dX3_readInto_88 (X2, Tv) hP hD hS h
            · have h := h.2 ct
              refine lv_iload hx hb dX3_readInto_47 (lv_at hl 0 rfl) ?_
              refine lv_if_ne (tgt := 56) hx hb dX3_readInto_49 (by decide) (fun ct => ?_) (fun ct => ?_)
              · have h := h.1 ct
                refine lv_iconst (v := 0) hx hb dX3_readInto_56 (by decide) ?_
                refine lv_iload_n hx hb dX3_readInto_57 rfl (lv_at hl 3 rfl) ?_
                refine lv_if_ne (tgt := 65) hx hb dX3_readInto_58 (by decide) (fun ct => ?_) (fun ct => ?_)
                · have h := h.1 ct
                  refine lv_iconst (v := 0) hx hb dX3_readInto_65 (by decide) ?_
                  refine lv_icmp_ne (tgt := 81) hx hb dX3_readInto_66 (by decide) (fun ct => absurd (by decide) ct) (fun _ => ?_)
                  refine lv_aload_n hx hb dX3_readInto_69 rfl (lv_at hl 1 rfl) ?_
                  refine lv_iload hx hb dX3_readInto_70 (lv_at hl 0 rfl) ?_
                  refine cl_Sr (rn_SX (rest := [.ref (a 99)]) hx hb hml hown hT hl.1 hC.1 hS ck_X3_38 (c_X3_limitsOf l ts v16) ⟨rfl, rfl, (Nat.le_of_ble_eq_true rfl), (Nat.le_of_ble_eq_true rfl)⟩ ⟨Nat.zero_le _, Nat.zero_le _⟩ rfl rfl (Nat.le_of_ble_eq_true rfl) dX3_readInto_72) (fun k17 ek17 => ?_)
                  have h := h k17 ek17
                  refine wi_part (wr := List.filterMap (fun i : Nat => (xtW a b cs X2 Tv)[i]?) [3, 4, 5, 6, 7, 8, 9, 10]) (w2 := fun u => (xtW a b cs u Tv)) [0, 1, 2] [3, 4, 5, 6, 7, 8, 9, 10] [8, 9, 10, 0, 1, 2, 3, 4, 5, 6, 7] (rn_V (rest := []) (ci := 1) (wc := (txW a cs X2)) hx hb hml hown hT hl.1 hC hS (hP.sub [0, 1, 2] rfl) (hD.sub [0, 1, 2] (by decide) rfl) 0 rfl rfl rfl ck_X3_42 (c_X3_numbersStand l G cs ts a H.size X2 k17 (by rw [ek17]; exact limK_lt _)  _ h) ⟨rfl, rfl, (Nat.le_of_ble_eq_true rfl), (Nat.le_of_ble_eq_true rfl)⟩ ⟨Nat.le_refl _, Nat.le_refl _⟩ rfl rfl (Nat.le_of_ble_eq_true rfl) dX3_readInto_75) hP hD hS hA rfl rfl rfl (by decide) rfl (fun _ => rfl) (fun r18 X19 H locs hP hD hS h => ?_)
                  refine lv_if_ne (tgt := 89) hx hb dX3_readInto_78 (by decide) (fun ct => ?_) (fun ct => ?_)
                  · have h := h.1 ct
                    refine lv_aload_n hx hb dX3_readInto_89 rfl (lv_at hl 1 rfl) ?_
                    refine wv_part (wr := List.filterMap (fun i : Nat => (xtW a b cs X19 Tv)[i]?) [3, 4, 5, 6, 7, 8, 9, 10]) (w2 := fun u => (xtW a b cs u Tv)) [0, 1, 2] [3, 4, 5, 6, 7, 8, 9, 10] [8, 9, 10, 0, 1, 2, 3, 4, 5, 6, 7] (rn_V (rest := []) (ci := 1) (wc := (txW a cs X19)) hx hb hml hown hT hl.1 hC hS (hP.sub [0, 1, 2] rfl) (hD.sub [0, 1, 2] (by decide) rfl) 0 rfl rfl rfl ck_X3_35 (c_X3_nextToken l G cs ts a H.size X19  _ h) ⟨rfl, rfl, (Nat.le_of_ble_eq_true rfl), (Nat.le_of_ble_eq_true rfl)⟩ ⟨Nat.le_refl _, Nat.le_refl _⟩ rfl rfl (Nat.le_of_ble_eq_true rfl) dX3_readInto_90) hP hD hS hA rfl rfl rfl (by decide) rfl (fun _ => rfl) (fun X20 H locs hP hD hS h => ?_)
                    refine lv_aload_n hx hb dX3_readInto_93 rfl (lv_at hl 1 rfl) ?_
                    refine gf_X3_25 hx hb hT hown hK hP 0 rfl rfl dX3_readInto_94 ?_
                    refine lv_iconst (v := 3) hx hb dX3_readInto_97 (by decide) ?_
                    refine lv_icmp_eq (tgt := 109) hx hb dX3_readInto_98 (by decide) (fun ct => ?_) (fun ct => ?_)
                    · have h := h.1 ct
                      refine lv_aload_n hx hb dX3_readInto_109 rfl (lv_at hl 1 rfl) ?_
                      refine lv_iload hx hb dX3_readInto_110 (lv_at hl 0 rfl) ?_
                      refine lv_aload_n hx hb dX3_readInto_112 rfl (lv_at hl 2 rfl) ?_
                      refine wv_allXT (rn_V (rest := []) (ci := 1) hx hb hml hown hT hl.1 hC hS hP hD 0 rfl rfl rfl ck_X3_46 (c_X3_putItem l G cs ts a b H.size X20 Tv v16 _ h) ⟨rfl, rfl, (Nat.le_of_ble_eq_true rfl), (Nat.le_of_ble_eq_true rfl)⟩ ⟨Nat.le_refl _, Nat.le_refl _⟩ rfl rfl (Nat.le_of_ble_eq_true rfl) dX3_readInto_113) hD hS hA (fun X21 T22 H locs hP hD hS h => ?_)
                      refine lv_iinc (v := y2 + 1) (lv' := [(2, .int (y2 + 1)), (4, .int v16), (0, .ref (a 99)), (1, .ref (b 99)), (3, .int y3)]) hx hb dX3_readInto_116 hl (k := 3) rfl rfl (by decide) rfl (fun ls hl => ?_)
                      refine lv_iinc (v := y3 + 1) (lv' := [(3, .int (y3 + 1)), (2, .int (y2 + 1)), (4, .int v16), (0, .ref (a 99)), (1, .ref (b 99))]) hx hb dX3_readInto_119 hl (k := 4) rfl rfl (by decide) rfl (fun ls hl => ?_)
                      refine lv_goto (tgt := 9) hx hb dX3_readInto_122 (by decide) ?_
                      exact ih _ _ _ _ h _ _ hP hD hS ls (lv_sub hl [3, 4, 1, 0] rfl)
                    · have h := h.2 ct
                      refine lv_bipush (v := (-10)) hx hb dX3_readInto_101 (by decide) ?_
                      refine lv_aload_n hx hb dX3_readInto_103 rfl (lv_at hl 1 rfl) ?_
                      refine gf_X3_19 hx hb hT hown hK hP 0 rfl rfl dX3_readInto_104 ?_
                      refine lv_isub hx hb dX3_readInto_107 ?_
                      exact rt_Wi hx hb hr hlk dX3_readInto_108 (X20, Tv) hP hD hS h
                  · have h := h.2 ct
                    refine lv_bipush (v := (-10)) hx hb dX3_readInto_81 (by decide) ?_
                    refine lv_aload_n hx hb dX3_readInto_83 rfl (lv_at hl 1 rfl) ?_
                    refine gf_X3_19 hx hb hT hown hK hP 0 rfl rfl dX3_readInto_84 ?_
                    refine lv_isub hx hb dX3_readInto_87 ?_
                    exact rt_Wi hx hb hr hlk dX3_readInto_88 (X19, Tv) hP hD hS h
                · have h := h.2 ct
                  refine lv_iconst (v := 1) hx hb dX3_readInto_61 (by decide) ?_
                  refine lv_goto (tgt := 66) hx hb dX3_readInto_62 (by decide) ?_
                  refine lv_icmp_ne (tgt := 81) hx hb dX3_readInto_66 (by decide) (fun _ => ?_) (fun ct => absurd ct (by decide))
                  refine lv_bipush (v := (-10)) hx hb dX3_readInto_81 (by decide) ?_
                  refine lv_aload_n hx hb dX3_readInto_83 rfl (lv_at hl 1 rfl) ?_
                  refine gf_X3_19 hx hb hT hown hK hP 0 rfl rfl dX3_readInto_84 ?_
                  refine lv_isub hx hb dX3_readInto_87 ?_
                  exact rt_Wi hx hb hr hlk dX3_readInto_88 (X2, Tv) hP hD hS h
              · have h := h.2 ct
                refine lv_iconst (v := 1) hx hb dX3_readInto_52 (by decide) ?_
                refine lv_goto (tgt := 57) hx hb dX3_readInto_53 (by decide) ?_
                refine lv_iload_n hx hb dX3_readInto_57 rfl (lv_at hl 3 rfl) ?_
                refine lv_if_ne (tgt := 65) hx hb dX3_readInto_58 (by decide) (fun ct => ?_) (fun ct => ?_)
                · have h := h.1 ct
                  refine lv_iconst (v := 0) hx hb dX3_readInto_65 (by decide) ?_
                  refine lv_icmp_ne (tgt := 81) hx hb dX3_readInto_66 (by decide) (fun _ => ?_) (fun ct => absurd ct (by decide))
                  refine lv_bipush (v := (-10)) hx hb dX3_readInto_81 (by decide) ?_
                  refine lv_aload_n hx hb dX3_readInto_83 rfl (lv_at hl 1 rfl) ?_
                  refine gf_X3_19 hx hb hT hown hK hP 0 rfl rfl dX3_readInto_84 ?_
                  refine lv_isub hx hb dX3_readInto_87 ?_
                  exact rt_Wi hx hb hr hlk dX3_readInto_88 (X2, Tv) hP hD hS h
                · have h := h.2 ct
                  refine lv_iconst (v := 1) hx hb dX3_readInto_61 (by decide) ?_
                  refine lv_goto (tgt := 66) hx hb dX3_readInto_62 (by decide) ?_
                  refine lv_icmp_ne (tgt := 81) hx hb dX3_readInto_66 (by decide) (fun ct => absurd (by decide) ct) (fun _ => ?_)
                  refine lv_aload_n hx hb dX3_readInto_69 rfl (lv_at hl 1 rfl) ?_
                  refine lv_iload hx hb dX3_readInto_70 (lv_at hl 0 rfl) ?_
                  refine cl_Sr (rn_SX (rest := [.ref (a 99)]) hx hb hml hown hT hl.1 hC.1 hS ck_X3_38 (c_X3_limitsOf l ts v16) ⟨rfl, rfl, (Nat.le_of_ble_eq_true rfl), (Nat.le_of_ble_eq_true rfl)⟩ ⟨Nat.zero_le _, Nat.zero_le _⟩ rfl rfl (Nat.le_of_ble_eq_true rfl) dX3_readInto_72) (fun k23 ek23 => ?_)
                  have h := h k23 ek23
                  refine wi_part (wr := List.filterMap (fun i : Nat => (xtW a b cs X2 Tv)[i]?) [3, 4, 5, 6, 7, 8, 9, 10]) (w2 := fun u => (xtW a b cs u Tv)) [0, 1, 2] [3, 4, 5, 6, 7, 8, 9, 10] [8, 9, 10, 0, 1, 2, 3, 4, 5, 6, 7] (rn_V (rest := []) (ci := 1) (wc := (txW a cs X2)) hx hb hml hown hT hl.1 hC hS (hP.sub [0, 1, 2] rfl) (hD.sub [0, 1, 2] (by decide) rfl) 0 rfl rfl rfl ck_X3_42 (c_X3_numbersStand l G cs ts a H.size X2 k23 (by rw [ek23]; exact limK_lt _)  _ h) ⟨rfl, rfl, (Nat.le_of_ble_eq_true rfl), (Nat.le_of_ble_eq_true rfl)⟩ ⟨Nat.le_refl _, Nat.le_refl _⟩ rfl rfl (Nat.le_of_ble_eq_true rfl) dX3_readInto_75) hP hD hS hA rfl rfl rfl (by decide) rfl (fun _ => rfl) (fun r24 X25 H locs hP hD hS h => ?_)
                  refine lv_if_ne (tgt := 89) hx hb dX3_readInto_78 (by decide) (fun ct => ?_) (fun ct => ?_)
                  · have h := h.1 ct
                    refine lv_aload_n hx hb dX3_readInto_89 rfl (lv_at hl 1 rfl) ?_
                    refine wv_part (wr := List.filterMap (fun i : Nat => (xtW a b cs X25 Tv)[i]?) [3, 4, 5, 6, 7, 8, 9, 10]) (w2 := fun u => (xtW a b cs u Tv)) [0, 1, 2] [3, 4, 5, 6, 7, 8, 9, 10] [8, 9, 10, 0, 1, 2, 3, 4, 5, 6, 7] (rn_V (rest := []) (ci := 1) (wc := (txW a cs X25)) hx hb hml hown hT hl.1 hC hS (hP.sub [0, 1, 2] rfl) (hD.sub [0, 1, 2] (by decide) rfl) 0 rfl rfl rfl ck_X3_35 (c_X3_nextToken l G cs ts a H.size X25  _ h) ⟨rfl, rfl, (Nat.le_of_ble_eq_true rfl), (Nat.le_of_ble_eq_true rfl)⟩ ⟨Nat.le_refl _, Nat.le_refl _⟩ rfl rfl (Nat.le_of_ble_eq_true rfl) dX3_readInto_90) hP hD hS hA rfl rfl rfl (by decide) rfl (fun _ => rfl) (fun X26 H locs hP hD hS h => ?_)
                    refine lv_aload_n hx hb dX3_readInto_93 rfl (lv_at hl 1 rfl) ?_
                    refine gf_X3_25 hx hb hT hown hK hP 0 rfl rfl dX3_readInto_94 ?_
                    refine lv_iconst (v := 3) hx hb dX3_readInto_97 (by decide) ?_
                    refine lv_icmp_eq (tgt := 109) hx hb dX3_readInto_98 (by decide) (fun ct => ?_) (fun ct => ?_)
                    · have h := h.1 ct
                      refine lv_aload_n hx hb dX3_readInto_109 rfl (lv_at hl 1 rfl) ?_
                      refine lv_iload hx hb dX3_readInto_110 (lv_at hl 0 rfl) ?_
                      refine lv_aload_n hx hb dX3_readInto_112 rfl (lv_at hl 2 rfl) ?_
                      refine wv_allXT (rn_V (rest := []) (ci := 1) hx hb hml hown hT hl.1 hC hS hP hD 0 rfl rfl rfl ck_X3_46 (c_X3_putItem l G cs ts a b H.size X26 Tv v16 _ h) ⟨rfl, rfl, (Nat.le_of_ble_eq_true rfl), (Nat.le_of_ble_eq_true rfl)⟩ ⟨Nat.le_refl _, Nat.le_refl _⟩ rfl rfl (Nat.le_of_ble_eq_true rfl) dX3_readInto_113) hD hS hA (fun X27 T28 H locs hP hD hS h => ?_)
                      refine lv_iinc (v := y2 + 1) (lv' := [(2, .int (y2 + 1)), (4, .int v16), (0, .ref (a 99)), (1, .ref (b 99)), (3, .int y3)]) hx hb dX3_readInto_116 hl (k := 3) rfl rfl (by decide) rfl (fun ls hl => ?_)
                      refine lv_iinc (v := y3 + 1) (lv' := [(3, .int (y3 + 1)), (2, .int (y2 + 1)), (4, .int v16), (0, .ref (a 99)), (1, .ref (b 99))]) hx hb dX3_readInto_119 hl (k := 4) rfl rfl (by decide) rfl (fun ls hl => ?_)
                      refine lv_goto (tgt := 9) hx hb dX3_readInto_122 (by decide) ?_
                      exact ih _ _ _ _ h _ _ hP hD hS ls (lv_sub hl [3, 4, 1, 0] rfl)
                    · have h := h.2 ct
                      refine lv_bipush (v := (-10)) hx hb dX3_readInto_101 (by decide) ?_
                      refine lv_aload_n hx hb dX3_readInto_103 rfl (lv_at hl 1 rfl) ?_
                      refine gf_X3_19 hx hb hT hown hK hP 0 rfl rfl dX3_readInto_104 ?_
                      refine lv_isub hx hb dX3_readInto_107 ?_
                      exact rt_Wi hx hb hr hlk dX3_readInto_108 (X26, Tv) hP hD hS h
                  · have h := h.2 ct
                    refine lv_bipush (v := (-10)) hx hb dX3_readInto_81 (by decide) ?_
                    refine lv_aload_n hx hb dX3_readInto_83 rfl (lv_at hl 1 rfl) ?_
                    refine gf_X3_19 hx hb hT hown hK hP 0 rfl rfl dX3_readInto_84 ?_
                    refine lv_isub hx hb dX3_readInto_87 ?_
                    exact rt_Wi hx hb hr hlk dX3_readInto_88 (X25, Tv) hP hD hS h
          · have h := h.2 ct
            refine lv_iload_n hx hb dX3_readInto_31 rfl (lv_at hl 2 rfl) ?_
            exact rt_Wi hx hb hr hlk dX3_readInto_32 (X2, Tv) hP hD hS h
  refine lv_aload_n hx hb dX3_readInto_0 rfl (lv_at hl 0 rfl) ?_
  refine lv_iconst (v := 0) hx hb dX3_readInto_1 (by decide) ?_
  refine pf_X3_22 hx hb hT hown hK hP hD hS 0 rfl (Nat.le_of_ble_eq_true rfl) dX3_readInto_2 (fun H locs hP hD hS => ?_)
  obtain ⟨X1, eX1⟩ : ∃ z : ZI, z = mu X 3 0 0 := ⟨_, rfl⟩
  have h := h X1 eX1
  have hP : va_P G vwCl (xtW a b cs X1 T) H := by rw [eX1]; exact hP
  have hD : va_D A (xtW a b cs X1 T) := by rw [eX1]; exact hD
  refine lv_iconst (v := 0) hx hb dX3_readInto_5 (by decide) ?_
  refine lv_istore_n (lv' := [(2, .int 0), (0, .ref (a 99)), (1, .ref (b 99))]) hx hb dX3_readInto_6 rfl hl (by decide) rfl (fun ls hl => ?_)
  refine lv_iconst (v := 0) hx hb dX3_readInto_7 (by decide) ?_
  refine lv_istore_n (lv' := [(3, .int 0), (2, .int 0), (0, .ref (a 99)), (1, .ref (b 99))]) hx hb dX3_readInto_8 rfl hl (by decide) rfl (fun ls hl => ?_)
  obtain ⟨n33, h⟩ := h
  refine HL9  _ (fun X29 T30 v31 v32 h H locs hP hD hS ls hl => ?_) n33 _ _ _ _ h _ _ hP hD hS ls (lv_sub hl [2, 3, 1, 0] rfl)
  refine lv_iload_n hx hb dX3_readInto_125 rfl (lv_at hl 2 rfl) ?_
  exact rt_Wi hx hb hr hlk dX3_readInto_126 (X29, T30) hP hD hS h
