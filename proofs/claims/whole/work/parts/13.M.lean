abbrev rm_X5_bad : Room := { frames := 0, cells := 0, slots := 0, locals := 0 }
set_option maxRecDepth 100000 in
set_option maxHeartbeats 4000000 in
theorem c_X5_bad (l : Launch) (G : va_G) (cs ts : Nat → Nat) (a : Nat → Nat) (sz : Nat)  (M : ZI) (L : ZL)    (post : Int32 → ZI → ZL → Prop) (h : w_X5_bad M L post) : Met l yX5_bad [.code yX5_bad cX5_bad 1 (some .int)] rm_X5_bad (va_Pc [.ref (a 99)] (CP G cs ts (mdW a cs M L) sz)) (va_Qi (fun (r : Int32) (u : ZI × ZL) => post r u.1 u.2) (CB G (va_A (mdW a cs M L) sz) (fun u => (mdW a cs u.1 u.2))) (va_A (mdW a cs M L) sz)) 0 0 (va_A (mdW a cs M L) sz) := by
  refine ax_W (Qc := fun A => va_Qi (fun (r : Int32) (u : ZI × ZL) => post r u.1 u.2) (CB G A (fun u => (mdW a cs u.1 u.2))) A) (by decide) (Nat.le_of_ble_eq_true rfl) sz ?_
  intro p e s m args below meth c A hx hb hr hlk hml hown hT hC hnm H locs hP hD hS ls hl
  have hK := hC.2.1
  have hA := hC.2.2
  have hl : lv_has ls 1 [(0, .ref (a 99))] := hl
  unfold w_X5_bad at h
  refine lv_aload_n hx hb dX5_bad_0 rfl (lv_at hl 0 rfl) ?_
  refine gf_X5_17 hx hb hT hown hK hP 0 rfl rfl dX5_bad_1 ?_
  refine lv_iconst (v := 0) hx hb dX5_bad_4 (by decide) ?_
  refine lv_dup2_11 hx hb dX5_bad_5 rfl rfl ?_
  have hi : vp_in 0 3 := by unfold vp_in; decide
  refine va_iald hx hb hK hP 2 0 rfl rfl hi dX5_bad_6 ?_
  refine lv_iconst (v := 1) hx hb dX5_bad_7 (by decide) ?_
  refine lv_iadd hx hb dX5_bad_8 ?_
  have hi : vp_in 0 3 := by unfold vp_in; decide
  refine va_iast hx hb hK hP hD hS 2 0 rfl rfl hi dX5_bad_9 (fun H locs hP hD hS => ?_)
  obtain ⟨M1, eM1⟩ : ∃ z : ZI, z = mu M 3 0 ((M 3 0) + 1) := ⟨_, rfl⟩
  have h := h M1 eM1
  have hP : va_P G vwCl (mdW a cs M1 L) H := by rw [eM1]; exact hP
  have hD : va_D A (mdW a cs M1 L) := by rw [eM1]; exact hD
  refine lv_bipush (v := (-2)) hx hb dX5_bad_10 (by decide) ?_
  exact rt_Wi hx hb hr hlk dX5_bad_12 (M1, L) hP hD hS h
abbrev rm_X5_no : Room := { frames := 0, cells := 0, slots := 0, locals := 0 }
set_option maxRecDepth 100000 in
set_option maxHeartbeats 4000000 in
theorem c_X5_no (l : Launch) (G : va_G) (cs ts : Nat → Nat) (a : Nat → Nat) (sz : Nat)  (M : ZI) (L : ZL)    (post : Int32 → ZI → ZL → Prop) (h : w_X5_no M L post) : Met l yX5_no [.code yX5_no cX5_no 1 (some .int)] rm_X5_no (va_Pc [.ref (a 99)] (CP G cs ts (mdW a cs M L) sz)) (va_Qi (fun (r : Int32) (u : ZI × ZL) => post r u.1 u.2) (CB G (va_A (mdW a cs M L) sz) (fun u => (mdW a cs u.1 u.2))) (va_A (mdW a cs M L) sz)) 0 0 (va_A (mdW a cs M L) sz) := by
  refine ax_W (Qc := fun A => va_Qi (fun (r : Int32) (u : ZI × ZL) => post r u.1 u.2) (CB G A (fun u => (mdW a cs u.1 u.2))) A) (by decide) (Nat.le_of_ble_eq_true rfl) sz ?_
  intro p e s m args below meth c A hx hb hr hlk hml hown hT hC hnm H locs hP hD hS ls hl
  have hK := hC.2.1
  have hA := hC.2.2
  have hl : lv_has ls 1 [(0, .ref (a 99))] := hl
  unfold w_X5_no at h
  refine lv_aload_n hx hb dX5_no_0 rfl (lv_at hl 0 rfl) ?_
  refine gf_X5_17 hx hb hT hown hK hP 0 rfl rfl dX5_no_1 ?_
  refine lv_iconst (v := 1) hx hb dX5_no_4 (by decide) ?_
  refine lv_dup2_11 hx hb dX5_no_5 rfl rfl ?_
  have hi : vp_in 1 3 := by unfold vp_in; decide
  refine va_iald hx hb hK hP 2 0 rfl rfl hi dX5_no_6 ?_
  refine lv_iconst (v := 1) hx hb dX5_no_7 (by decide) ?_
  refine lv_iadd hx hb dX5_no_8 ?_
  have hi : vp_in 1 3 := by unfold vp_in; decide
  refine va_iast hx hb hK hP hD hS 2 0 rfl rfl hi dX5_no_9 (fun H locs hP hD hS => ?_)
  obtain ⟨M1, eM1⟩ : ∃ z : ZI, z = mu M 3 1 ((M 3 1) + 1) := ⟨_, rfl⟩
  have h := h M1 eM1
  have hP : va_P G vwCl (mdW a cs M1 L) H := by rw [eM1]; exact hP
  have hD : va_D A (mdW a cs M1 L) := by rw [eM1]; exact hD
  refine lv_bipush (v := (-3)) hx hb dX5_no_10 (by decide) ?_
  exact rt_Wi hx hb hr hlk dX5_no_12 (M1, L) hP hD hS h
abbrev rm_X5_full : Room := { frames := 0, cells := 0, slots := 0, locals := 0 }
set_option maxRecDepth 100000 in
set_option maxHeartbeats 4000000 in
theorem c_X5_full (l : Launch) (G : va_G) (cs ts : Nat → Nat) (a : Nat → Nat) (sz : Nat)  (M : ZI) (L : ZL)    (post : Int32 → ZI → ZL → Prop) (h : w_X5_full M L post) : Met l yX5_full [.code yX5_full cX5_full 1 (some .int)] rm_X5_full (va_Pc [.ref (a 99)] (CP G cs ts (mdW a cs M L) sz)) (va_Qi (fun (r : Int32) (u : ZI × ZL) => post r u.1 u.2) (CB G (va_A (mdW a cs M L) sz) (fun u => (mdW a cs u.1 u.2))) (va_A (mdW a cs M L) sz)) 0 0 (va_A (mdW a cs M L) sz) := by
  refine ax_W (Qc := fun A => va_Qi (fun (r : Int32) (u : ZI × ZL) => post r u.1 u.2) (CB G A (fun u => (mdW a cs u.1 u.2))) A) (by decide) (Nat.le_of_ble_eq_true rfl) sz ?_
  intro p e s m args below meth c A hx hb hr hlk hml hown hT hC hnm H locs hP hD hS ls hl
  have hK := hC.2.1
  have hA := hC.2.2
  have hl : lv_has ls 1 [(0, .ref (a 99))] := hl
  unfold w_X5_full at h
  refine lv_aload_n hx hb dX5_full_0 rfl (lv_at hl 0 rfl) ?_
  refine gf_X5_17 hx hb hT hown hK hP 0 rfl rfl dX5_full_1 ?_
  refine lv_iconst (v := 2) hx hb dX5_full_4 (by decide) ?_
  refine lv_dup2_11 hx hb dX5_full_5 rfl rfl ?_
  have hi : vp_in 2 3 := by unfold vp_in; decide
  refine va_iald hx hb hK hP 2 0 rfl rfl hi dX5_full_6 ?_
  refine lv_iconst (v := 1) hx hb dX5_full_7 (by decide) ?_
  refine lv_iadd hx hb dX5_full_8 ?_
  have hi : vp_in 2 3 := by unfold vp_in; decide
  refine va_iast hx hb hK hP hD hS 2 0 rfl rfl hi dX5_full_9 (fun H locs hP hD hS => ?_)
  obtain ⟨M1, eM1⟩ : ∃ z : ZI, z = mu M 3 2 ((M 3 2) + 1) := ⟨_, rfl⟩
  have h := h M1 eM1
  have hP : va_P G vwCl (mdW a cs M1 L) H := by rw [eM1]; exact hP
  have hD : va_D A (mdW a cs M1 L) := by rw [eM1]; exact hD
  refine lv_bipush (v := (-4)) hx hb dX5_full_10 (by decide) ?_
  exact rt_Wi hx hb hr hlk dX5_full_12 (M1, L) hP hD hS h
abbrev rm_X5_looksOf : Room := { frames := 1, cells := 0, slots := 0, locals := 25 }
set_option maxRecDepth 100000 in
set_option maxHeartbeats 4000000 in
theorem c_X5_looksOf (l : Launch) (G : va_G) (cs ts : Nat → Nat) (a : Nat → Nat) (sz : Nat)  (M : ZI) (L : ZL)   (x1 : Int32) (x2 : Int32) (post : Int32 → ZI → ZL → Prop) (h : w_X5_looksOf M L x1 x2 post) : Met l yX5_looksOf [.code yX5_looksOf cX5_looksOf 5 (some .int)] rm_X5_looksOf (va_Pc [.ref (a 99), .int x1, .int x2] (CP G cs ts (mdW a cs M L) sz)) (va_Qi (fun (r : Int32) (u : ZI × ZL) => post r u.1 u.2) (CB G (va_A (mdW a cs M L) sz) (fun u => (mdW a cs u.1 u.2))) (va_A (mdW a cs M L) sz)) 0 0 (va_A (mdW a cs M L) sz) := by
  refine ax_W (Qc := fun A => va_Qi (fun (r : Int32) (u : ZI × ZL) => post r u.1 u.2) (CB G A (fun u => (mdW a cs u.1 u.2))) A) (by decide) (Nat.le_of_ble_eq_true rfl) sz ?_
  intro p e s m args below meth c A hx hb hr hlk hml hown hT hC hnm H locs hP hD hS ls hl
  have hK := hC.2.1
  have hA := hC.2.2
  have hl : lv_has ls 5 [(0, .ref (a 99)), (1, .int x1), (2, .int x2)] := hl
  unfold w_X5_looksOf at h
  have HL5 : ∀ (Mf : ZI) (Lf : ZL) (z1 : Int32) (z2 : Int32) (K : Int32 → Int32 → Prop), (∀  (y3 : Int32) (y4 : Int32), K y3 y4 → ∀ (H : Heap) (locs : List Loc), va_P G vwCl (mdW a cs Mf Lf) H → va_D A (mdW a cs Mf Lf) → va_S A s.heap H locs → ∀ ls : Array Slot, lv_has ls 5 [(0, .ref (a 99)), (1, .int z1), (2, .int z2), (3, .int y3), (4, .int y4)] → W p l e rm_X5_looksOf s m args below meth c H locs 0 0 (MQ below (va_Qi (fun (r : Int32) (u : ZI × ZL) => post r u.1 u.2) (CB G A (fun u => (mdW a cs u.1 u.2))) A) args s 0 0 A) (F0 m 50 ls [])) → ∀ (n : Nat)  (y3 : Int32) (y4 : Int32), itF (w_X5_looksOf_L5 Mf Lf z1 z2 post K) (fun _ _ => False) n y3 y4 → ∀ (H : Heap) (locs : List Loc), va_P G vwCl (mdW a cs Mf Lf) H → va_D A (mdW a cs Mf Lf) → va_S A s.heap H locs → ∀ ls : Array Slot, lv_has ls 5 [(0, .ref (a 99)), (1, .int z1), (2, .int z2), (3, .int y3), (4, .int y4)] → W p l e rm_X5_looksOf s m args below meth c H locs 0 0 (MQ below (va_Qi (fun (r : Int32) (u : ZI × ZL) => post r u.1 u.2) (CB G A (fun u => (mdW a cs u.1 u.2))) A) args s 0 0 A) (F0 m 5 ls []) := by
    intro Mf Lf z1 z2 K hKK n
    induction n with
    | zero =>
      intro y3 y4 h
      exact absurd h id
    | succ n ih =>
      intro y3 y4 h H locs hP hD hS ls hl
      have h : w_X5_looksOf_L5 Mf Lf z1 z2 post K (itF (w_X5_looksOf_L5 Mf Lf z1 z2 post K) (fun _ _ => False) n) y3 y4 := h
      generalize itF (w_X5_looksOf_L5 Mf Lf z1 z2 post K) (fun _ _ => False) n = rec at h ih
      unfold w_X5_looksOf_L5 at h
      refine lv_iload hx hb dX5_looksOf_5 (lv_at hl 4 rfl) ?_
      refine lv_bipush (v := 16) hx hb dX5_looksOf_7 (by decide) ?_
      refine lv_icmp_ge (tgt := 50) hx hb dX5_looksOf_9 (by decide) (fun ct => ?_) (fun ct => ?_)
      · have h := h.1 ct
        exact hKK _ _ h _ _ hP hD hS ls (lv_sub hl [0, 1, 2, 3, 4] rfl)
      · have h := h.2 ct
        refine lv_iload_n hx hb dX5_looksOf_12 rfl (lv_at hl 3 rfl) ?_
        refine lv_aload_n hx hb dX5_looksOf_13 rfl (lv_at hl 0 rfl) ?_
        refine gf_X5_7 hx hb hT hown hK hP 0 rfl rfl dX5_looksOf_14 ?_
        refine lv_bipush (v := 65) hx hb dX5_looksOf_17 (by decide) ?_
        refine lv_iload_n hx hb dX5_looksOf_19 rfl (lv_at hl 1 rfl) ?_
        refine lv_iadd hx hb dX5_looksOf_20 ?_
        obtain ⟨hi, h⟩ := h
        refine va_iald hx hb hK hP 1 0 rfl rfl hi dX5_looksOf_21 ?_
        refine lv_iload hx hb dX5_looksOf_22 (lv_at hl 4 rfl) ?_
        refine cl_Si (rn_S (rest := [.int y3]) hx hb hml hown hT hl.1 ck_X5_72 (c_X5_has l (Mf 0 (65 + z1).toNatClampNeg) y4 _ h) ⟨rfl, rfl, (Nat.le_of_ble_eq_true rfl), (Nat.le_of_ble_eq_true rfl)⟩ ⟨Nat.zero_le _, Nat.zero_le _⟩ rfl rfl (Nat.le_of_ble_eq_true rfl) dX5_looksOf_24) (fun r1 h => ?_)
        refine lv_if_eq (tgt := 41) hx hb dX5_looksOf_27 (by decide) (fun ct => ?_) (fun ct => ?_)
        · have h := h.1 ct
          refine lv_iconst (v := 0) hx hb dX5_looksOf_41 (by decide) ?_
          refine lv_ior hx hb dX5_looksOf_42 ?_
          refine lv_topi (fun v2 ev2 => ?_)
          have h := h v2 ev2
          refine lv_istore_n (lv' := [(3, .int v2), (0, .ref (a 99)), (1, .int z1), (2, .int z2), (4, .int y4)]) hx hb dX5_looksOf_43 rfl hl (by decide) rfl (fun ls hl => ?_)
          refine lv_iinc (v := y4 + 1) (lv' := [(4, .int (y4 + 1)), (3, .int v2), (0, .ref (a 99)), (1, .int z1), (2, .int z2)]) hx hb dX5_looksOf_44 hl (k := 4) rfl rfl (by decide) rfl (fun ls hl => ?_)
          refine lv_goto (tgt := 5) hx hb dX5_looksOf_47 (by decide) ?_
          exact ih _ _ h _ _ hP hD hS ls (lv_sub hl [2, 3, 4, 1, 0] rfl)
        · have h := h.2 ct
          refine lv_iconst (v := 1) hx hb dX5_looksOf_30 (by decide) ?_
          refine lv_iload hx hb dX5_looksOf_31 (lv_at hl 4 rfl) ?_
          refine lv_iload_n hx hb dX5_looksOf_33 rfl (lv_at hl 2 rfl) ?_
          refine cl_Si (rn_S (rest := [.int 1, .int y3]) hx hb hml hown hT hl.1 ck_X5_75 (c_X5_lands l y4 z2 _ h) ⟨rfl, rfl, (Nat.le_of_ble_eq_true rfl), (Nat.le_of_ble_eq_true rfl)⟩ ⟨Nat.zero_le _, Nat.zero_le _⟩ rfl rfl (Nat.le_of_ble_eq_true rfl) dX5_looksOf_34) (fun r3 h => ?_)
          refine lv_ishl hx hb dX5_looksOf_37 ?_
          refine lv_goto (tgt := 42) hx hb dX5_looksOf_38 (by decide) ?_
          refine lv_ior hx hb dX5_looksOf_42 ?_
          refine lv_topi (fun v4 ev4 => ?_)
          have h := h v4 ev4
          refine lv_istore_n (lv' := [(3, .int v4), (0, .ref (a 99)), (1, .int z1), (2, .int z2), (4, .int y4)]) hx hb dX5_looksOf_43 rfl hl (by decide) rfl (fun ls hl => ?_)
          refine lv_iinc (v := y4 + 1) (lv' := [(4, .int (y4 + 1)), (3, .int v4), (0, .ref (a 99)), (1, .int z1), (2, .int z2)]) hx hb dX5_looksOf_44 hl (k := 4) rfl rfl (by decide) rfl (fun ls hl => ?_)
          refine lv_goto (tgt := 5) hx hb dX5_looksOf_47 (by decide) ?_
          exact ih _ _ h _ _ hP hD hS ls (lv_sub hl [2, 3, 4, 1, 0] rfl)
  refine lv_iconst (v := 0) hx hb dX5_looksOf_0 (by decide) ?_
  refine lv_istore_n (lv' := [(3, .int 0), (0, .ref (a 99)), (1, .int x1), (2, .int x2)]) hx hb dX5_looksOf_1 rfl hl (by decide) rfl (fun ls hl => ?_)
  refine lv_iconst (v := 0) hx hb dX5_looksOf_2 (by decide) ?_
  refine lv_istore (lv' := [(4, .int 0), (3, .int 0), (0, .ref (a 99)), (1, .int x1), (2, .int x2)]) hx hb dX5_looksOf_3 hl (by decide) rfl (fun ls hl => ?_)
  obtain ⟨n7, h⟩ := h
  refine HL5 _ _ _ _ _ (fun v5 v6 h H locs hP hD hS ls hl => ?_) n7 _ _ h _ _ hP hD hS ls (lv_sub hl [2, 3, 4, 1, 0] rfl)
  refine lv_iload_n hx hb dX5_looksOf_50 rfl (lv_at hl 3 rfl) ?_
  exact rt_Wi hx hb hr hlk dX5_looksOf_51 (M, L) hP hD hS h
abbrev rm_X5_layLooks : Room := { frames := 2, cells := 0, slots := 0, locals := 46 }
set_option maxRecDepth 100000 in
set_option maxHeartbeats 4000000 in
theorem c_X5_layLooks (l : Launch) (G : va_G) (cs ts : Nat → Nat) (a : Nat → Nat) (sz : Nat)  (M : ZI) (L : ZL)   (x1 : Int32) (x2 : Int32) (x3 : Int32) (x4 : Int32) (x5 : Int32) (post : ZI → ZL → Prop) (h : w_X5_layLooks M L x1 x2 x3 x4 x5 post) : Met l yX5_layLooks [.code yX5_layLooks cX5_layLooks 10 none] rm_X5_layLooks (va_Pc [.ref (a 99), .int x1, .int x2, .int x3, .int x4, .int x5] (CP G cs ts (mdW a cs M L) sz)) (va_Qv (fun (u : ZI × ZL) => post u.1 u.2) (CB G (va_A (mdW a cs M L) sz) (fun u => (mdW a cs u.1 u.2))) (va_A (mdW a cs M L) sz)) 0 0 (va_A (mdW a cs M L) sz) := by
  refine ax_W (Qc := fun A => va_Qv (fun (u : ZI × ZL) => post u.1 u.2) (CB G A (fun u => (mdW a cs u.1 u.2))) A) (by decide) (Nat.le_of_ble_eq_true rfl) sz ?_
  intro p e s m args below meth c A hx hb hr hlk hml hown hT hC hnm H locs hP hD hS ls hl
  have hK := hC.2.1
  have hA := hC.2.2
  have hl : lv_has ls 10 [(0, .ref (a 99)), (1, .int x1), (2, .int x2), (3, .int x3), (4, .int x4), (5, .int x5)] := hl
  unfold w_X5_layLooks at h
  have HL3 : ∀ (Lf : ZL) (z1 : Int32) (z2 : Int32) (z3 : Int32) (z4 : Int32) (z5 : Int32) (K : ZI → Int32 → Prop), (∀ (Mv : ZI) (y6 : Int32), K Mv y6 → ∀ (H : Heap) (locs : List Loc), va_P G vwCl (mdW a cs Mv Lf) H → va_D A (mdW a cs Mv Lf) → va_S A s.heap H locs → ∀ ls : Array Slot, lv_has ls 10 [(0, .ref (a 99)), (1, .int z1), (2, .int z2), (3, .int z3), (4, .int z4), (5, .int z5), (6, .int y6)] → W p l e rm_X5_layLooks s m args below meth c H locs 0 0 (MQ below (va_Qv (fun (u : ZI × ZL) => post u.1 u.2) (CB G A (fun u => (mdW a cs u.1 u.2))) A) args s 0 0 A) (F0 m 112 ls [])) → ∀ (n : Nat) (Mv : ZI) (y6 : Int32), itF (w_X5_layLooks_L3 Lf z1 z2 z3 z4 z5 post K) (fun _ _ => False) n Mv y6 → ∀ (H : Heap) (locs : List Loc), va_P G vwCl (mdW a cs Mv Lf) H → va_D A (mdW a cs Mv Lf) → va_S A s.heap H locs → ∀ ls : Array Slot, lv_has ls 10 [(0, .ref (a 99)), (1, .int z1), (2, .int z2), (3, .int z3), (4, .int z4), (5, .int z5), (6, .int y6)] → W p l e rm_X5_layLooks s m args below meth c H locs 0 0 (MQ below (va_Qv (fun (u : ZI × ZL) => post u.1 u.2) (CB G A (fun u => (mdW a cs u.1 u.2))) A) args s 0 0 A) (F0 m 3 ls []) := by
    intro Lf z1 z2 z3 z4 z5 K hKK n
    induction n with
    | zero =>
      intro Mv y6 h
      exact absurd h id
    | succ n ih =>
      intro Mv y6 h H locs hP hD hS ls hl
      have h : w_X5_layLooks_L3 Lf z1 z2 z3 z4 z5 post K (itF (w_X5_layLooks_L3 Lf z1 z2 z3 z4 z5 post K) (fun _ _ => False) n) Mv y6 := h
      generalize itF (w_X5_layLooks_L3 Lf z1 z2 z3 z4 z5 post K) (fun _ _ => False) n = rec at h ih
      unfold w_X5_layLooks_L3 at h
      refine lv_iload hx hb dX5_layLooks_3 (lv_at hl 6 rfl) ?_
      refine lv_bipush (v := 16) hx hb dX5_layLooks_5 (by decide) ?_
      refine lv_icmp_ge (tgt := 112) hx hb dX5_layLooks_7 (by decide) (fun ct => ?_) (fun ct => ?_)
      · have h := h.1 ct
        exact hKK _ _ h _ _ hP hD hS ls (lv_sub hl [0, 1, 2, 3, 4, 5, 6] rfl)
      · have h := h.2 ct
        refine lv_iload_n hx hb dX5_layLooks_10 rfl (lv_at hl 2 rfl) ?_
        refine lv_iload hx hb dX5_layLooks_11 (lv_at hl 6 rfl) ?_
        refine lv_iconst (v := 4) hx hb dX5_layLooks_13 (by decide) ?_
        refine lv_irem hx hb dX5_layLooks_14 (by decide) ?_
        refine lv_iadd hx hb dX5_layLooks_15 ?_
        refine lv_topi (fun v1 ev1 => ?_)
        have h := h v1 ev1
        refine lv_istore (lv' := [(7, .int v1), (0, .ref (a 99)), (1, .int z1), (2, .int z2), (3, .int z3), (4, .int z4), (5, .int z5), (6, .int y6)]) hx hb dX5_layLooks_16 hl (by decide) rfl (fun ls hl => ?_)
        refine lv_iload_n hx hb dX5_layLooks_18 rfl (lv_at hl 4 rfl) ?_
        refine lv_iload hx hb dX5_layLooks_19 (lv_at hl 7 rfl) ?_
        refine lv_iconst (v := 4) hx hb dX5_layLooks_21 (by decide) ?_
        refine lv_idiv hx hb dX5_layLooks_22 (by decide) ?_
        refine lv_iadd hx hb dX5_layLooks_23 ?_
        refine lv_topi (fun v2 ev2 => ?_)
        have h := h v2 ev2
        refine lv_istore (lv' := [(8, .int v2), (7, .int v1), (0, .ref (a 99)), (1, .int z1), (2, .int z2), (3, .int z3), (4, .int z4), (5, .int z5), (6, .int y6)]) hx hb dX5_layLooks_24 hl (by decide) rfl (fun ls hl => ?_)
        refine lv_iload_n hx hb dX5_layLooks_26 rfl (lv_at hl 3 rfl) ?_
        refine lv_iload hx hb dX5_layLooks_27 (lv_at hl 8 rfl) ?_
        refine cl_Si (rn_S (rest := []) hx hb hml hown hT hl.1 ck_X5_72 (c_X5_has l z1 y6 _ h) ⟨rfl, rfl, (Nat.le_of_ble_eq_true rfl), (Nat.le_of_ble_eq_true rfl)⟩ ⟨Nat.zero_le _, Nat.zero_le _⟩ rfl rfl (Nat.le_of_ble_eq_true rfl) dX5_layLooks_29) (fun r3 h => ?_)
        refine lv_if_eq (tgt := 65) hx hb dX5_layLooks_32 (by decide) (fun ct => ?_) (fun ct => ?_)
        · have h := h.1 ct
          refine lv_iconst (v := 0) hx hb dX5_layLooks_65 (by decide) ?_
          refine lv_istore (lv' := [(9, .int 0), (8, .int v2), (7, .int v1), (0, .ref (a 99)), (1, .int z1), (2, .int z2), (3, .int z3), (4, .int z4), (5, .int z5), (6, .int y6)]) hx hb dX5_layLooks_66 hl (by decide) rfl (fun ls hl => ?_)
          refine lv_iload hx hb dX5_layLooks_68 (lv_at hl 0 rfl) ?_
          refine lv_if_eq (tgt := 106) hx hb dX5_layLooks_70 (by decide) (fun _ => ?_) (fun ct => absurd (by decide) ct)
          refine lv_iinc (v := y6 + 1) (lv' := [(6, .int (y6 + 1)), (9, .int 0), (8, .int v2), (7, .int v1), (0, .ref (a 99)), (1, .int z1), (2, .int z2), (3, .int z3), (4, .int z4), (5, .int z5)]) hx hb dX5_layLooks_106 hl (k := 9) rfl rfl (by decide) rfl (fun ls hl => ?_)
          refine lv_goto (tgt := 3) hx hb dX5_layLooks_109 (by decide) ?_
          exact ih _ _ h _ _ hP hD hS ls (lv_sub hl [4, 5, 6, 7, 8, 9, 0] rfl)
        · have h := h.2 ct
          refine lv_iload hx hb dX5_layLooks_35 (lv_at hl 1 rfl) ?_
          refine lv_iload hx hb dX5_layLooks_37 (lv_at hl 0 rfl) ?_
          refine cl_Si (rn_S (rest := []) hx hb hml hown hT hl.1 ck_X5_66 (c_X5_isPlace l v1 v2 _ h) ⟨rfl, rfl, (Nat.le_of_ble_eq_true rfl), (Nat.le_of_ble_eq_true rfl)⟩ ⟨Nat.zero_le _, Nat.zero_le _⟩ rfl rfl (Nat.le_of_ble_eq_true rfl) dX5_layLooks_39) (fun r4 h => ?_)
          refine lv_if_eq (tgt := 65) hx hb dX5_layLooks_42 (by decide) (fun ct => ?_) (fun ct => ?_)
          · have h := h.1 ct
            refine lv_iconst (v := 0) hx hb dX5_layLooks_65 (by decide) ?_
            refine lv_istore (lv' := [(9, .int 0), (8, .int v2), (7, .int v1), (0, .ref (a 99)), (1, .int z1), (2, .int z2), (3, .int z3), (4, .int z4), (5, .int z5), (6, .int y6)]) hx hb dX5_layLooks_66 hl (by decide) rfl (fun ls hl => ?_)
            refine lv_iload hx hb dX5_layLooks_68 (lv_at hl 0 rfl) ?_
            refine lv_if_eq (tgt := 106) hx hb dX5_layLooks_70 (by decide) (fun _ => ?_) (fun ct => absurd (by decide) ct)
            refine lv_iinc (v := y6 + 1) (lv' := [(6, .int (y6 + 1)), (9, .int 0), (8, .int v2), (7, .int v1), (0, .ref (a 99)), (1, .int z1), (2, .int z2), (3, .int z3), (4, .int z4), (5, .int z5)]) hx hb dX5_layLooks_106 hl (k := 9) rfl rfl (by decide) rfl (fun ls hl => ?_)
            refine lv_goto (tgt := 3) hx hb dX5_layLooks_109 (by decide) ?_
            exact ih _ _ h _ _ hP hD hS ls (lv_sub hl [4, 5, 6, 7, 8, 9, 0] rfl)
          · have h := h.2 ct
            refine lv_iload hx hb dX5_layLooks_45 (lv_at hl 7 rfl) ?_
            refine lv_if_eq (tgt := 61) hx hb dX5_layLooks_47 (by decide) (fun ct => ?_) (fun ct => ?_)
            · have h := h.1 ct
              refine lv_iconst (v := 1) hx hb dX5_layLooks_61 (by decide) ?_
              refine lv_goto (tgt := 66) hx hb dX5_layLooks_62 (by decide) ?_
              refine lv_istore (lv' := [(9, .int 1), (8, .int v2), (7, .int v1), (0, .ref (a 99)), (1, .int z1), (2, .int z2), (3, .int z3), (4, .int z4), (5, .int z5), (6, .int y6)]) hx hb dX5_layLooks_66 hl (by decide) rfl (fun ls hl => ?_)
              refine lv_iload hx hb dX5_layLooks_68 (lv_at hl 0 rfl) ?_
              refine lv_if_eq (tgt := 106) hx hb dX5_layLooks_70 (by decide) (fun ct => absurd ct (by decide)) (fun _ => ?_)
              refine lv_aload_n hx hb dX5_layLooks_73 rfl (lv_at hl 3 rfl) ?_
              refine gf_X5_20 hx hb hT hown hK hP 0 rfl rfl dX5_layLooks_74 ?_
              refine lv_bipush (v := 8) hx hb dX5_layLooks_77 (by decide) ?_
              refine lv_iload hx hb dX5_layLooks_79 (lv_at hl 1 rfl) ?_
              refine lv_imul hx hb dX5_layLooks_81 ?_
              refine lv_iload hx hb dX5_layLooks_82 (lv_at hl 2 rfl) ?_
              refine lv_iadd hx hb dX5_layLooks_84 ?_
              obtain ⟨hi, h⟩ := h
              refine va_iald hx hb hK hP 3 0 rfl rfl hi dX5_layLooks_85 ?_
              refine lv_iload hx hb dX5_layLooks_86 (lv_at hl 7 rfl) ?_
              refine lv_icmp_ge (tgt := 106) hx hb dX5_layLooks_88 (by decide) (fun ct => ?_) (fun ct => ?_)
              · have h := h.1 ct
                refine lv_iinc (v := y6 + 1) (lv' := [(6, .int (y6 + 1)), (9, .int 1), (8, .int v2), (7, .int v1), (0, .ref (a 99)), (1, .int z1), (2, .int z2), (3, .int z3), (4, .int z4), (5, .int z5)]) hx hb dX5_layLooks_106 hl (k := 9) rfl rfl (by decide) rfl (fun ls hl => ?_)
                refine lv_goto (tgt := 3) hx hb dX5_layLooks_109 (by decide) ?_
                exact ih _ _ h _ _ hP hD hS ls (lv_sub hl [4, 5, 6, 7, 8, 9, 0] rfl)
              · have h := h.2 ct
                refine lv_aload_n hx hb dX5_layLooks_91 rfl (lv_at hl 3 rfl) ?_
                refine gf_X5_20 hx hb hT hown hK hP 0 rfl rfl dX5_layLooks_92 ?_
                refine lv_bipush (v := 8) hx hb dX5_layLooks_95 (by decide) ?_
                refine lv_iload hx hb dX5_layLooks_97 (lv_at hl 1 rfl) ?_
                refine lv_imul hx hb dX5_layLooks_99 ?_
                refine lv_iload hx hb dX5_layLooks_100 (lv_at hl 2 rfl) ?_
                refine lv_iadd hx hb dX5_layLooks_102 ?_
                refine lv_iload hx hb dX5_layLooks_103 (lv_at hl 7 rfl) ?_
                obtain ⟨hi, h⟩ := h
                refine va_iast hx hb hK hP hD hS 3 0 rfl rfl hi dX5_layLooks_105 (fun H locs hP hD hS => ?_)
                obtain ⟨M5, eM5⟩ : ∃ z : ZI, z = mu Mv 4 ((8 * v2) + v1).toNatClampNeg z4 := ⟨_, rfl⟩
                have h := h M5 eM5
                have hP : va_P G vwCl (mdW a cs M5 Lf) H := by rw [eM5]; exact hP
                have hD : va_D A (mdW a cs M5 Lf) := by rw [eM5]; exact hD
                refine lv_iinc (v := y6 + 1) (lv' := [(6, .int (y6 + 1)), (9, .int 1), (8, .int v2), (7, .int v1), (0, .ref (a 99)), (1, .int z1), (2, .int z2), (3, .int z3), (4, .int z4), (5, .int z5)]) hx hb dX5_layLooks_106 hl (k := 9) rfl rfl (by decide) rfl (fun ls hl => ?_)
                refine lv_goto (tgt := 3) hx hb dX5_layLooks_109 (by decide) ?_
                exact ih _ _ h _ _ hP hD hS ls (lv_sub hl [4, 5, 6, 7, 8, 9, 0] rfl)
            · have h := h.2 ct
              refine lv_iload hx hb dX5_layLooks_50 (lv_at hl 1 rfl) ?_
              refine lv_iload hx hb dX5_layLooks_52 (lv_at hl 0 rfl) ?_
              refine lv_iadd hx hb dX5_layLooks_54 ?_
              refine lv_iconst (v := 2) hx hb dX5_layLooks_55 (by decide) ?_
              refine lv_irem hx hb dX5_layLooks_56 (by decide) ?_
              refine lv_iconst (v := 1) hx hb dX5_layLooks_57 (by decide) ?_
              refine lv_icmp_eq (tgt := 65) hx hb dX5_layLooks_58 (by decide) (fun ct => ?_) (fun ct => ?_)
              · have h := h.1 ct
                refine lv_iconst (v := 0) hx hb dX5_layLooks_65 (by decide) ?_
                refine lv_istore (lv' := [(9, .int 0), (8, .int v2), (7, .int v1), (0, .ref (a 99)), (1, .int z1), (2, .int z2), (3, .int z3), (4, .int z4), (5, .int z5), (6, .int y6)]) hx hb dX5_layLooks_66 hl (by decide) rfl (fun ls hl => ?_)
                refine lv_iload hx hb dX5_layLooks_68 (lv_at hl 0 rfl) ?_
                refine lv_if_eq (tgt := 106) hx hb dX5_layLooks_70 (by decide) (fun _ => ?_) (fun ct => absurd (by decide) ct)
                refine lv_iinc (v := y6 + 1) (lv' := [(6, .int (y6 + 1)), (9, .int 0), (8, .int v2), (7, .int v1), (0, .ref (a 99)), (1, .int z1), (2, .int z2), (3, .int z3), (4, .int z4), (5, .int z5)]) hx hb dX5_layLooks_106 hl (k := 9) rfl rfl (by decide) rfl (fun ls hl => ?_)
                refine lv_goto (tgt := 3) hx hb dX5_layLooks_109 (by decide) ?_
                exact ih _ _ h _ _ hP hD hS ls (lv_sub hl [4, 5, 6, 7, 8, 9, 0] rfl)
              · have h := h.2 ct
                refine lv_iconst (v := 1) hx hb dX5_layLooks_61 (by decide) ?_
                refine lv_goto (tgt := 66) hx hb dX5_layLooks_62 (by decide) ?_
                refine lv_istore (lv' := [(9, .int 1), (8, .int v2), (7, .int v1), (0, .ref (a 99)), (1, .int z1), (2, .int z2), (3, .int z3), (4, .int z4), (5, .int z5), (6, .int y6)]) hx hb dX5_layLooks_66 hl (by decide) rfl (fun ls hl => ?_)
                refine lv_iload hx hb dX5_layLooks_68 (lv_at hl 0 rfl) ?_
                refine lv_if_eq (tgt := 106) hx hb dX5_layLooks_70 (by decide) (fun ct => absurd ct (by decide)) (fun _ => ?_)
                refine lv_aload_n hx hb dX5_layLooks_73 rfl (lv_at hl 3 rfl) ?_
                refine gf_X5_20 hx hb hT hown hK hP 0 rfl rfl dX5_layLooks_74 ?_
                refine lv_bipush (v := 8) hx hb dX5_layLooks_77 (by decide) ?_
                refine lv_iload hx hb dX5_layLooks_79 (lv_at hl 1 rfl) ?_
                refine lv_imul hx hb dX5_layLooks_81 ?_
                refine lv_iload hx hb dX5_layLooks_82 (lv_at hl 2 rfl) ?_
                refine lv_iadd hx hb dX5_layLooks_84 ?_
                obtain ⟨hi, h⟩ := h
                refine va_iald hx hb hK hP 3 0 rfl rfl hi dX5_layLooks_85 ?_
                refine lv_iload hx hb dX5_layLooks_86 (lv_at hl 7 rfl) ?_
                refine lv_icmp_ge (tgt := 106) hx hb dX5_layLooks_88 (by decide) (fun ct => ?_) (fun ct => ?_)
                · have h := h.1 ct
                  refine lv_iinc (v := y6 + 1) (lv' := [(6, .int (y6 + 1)), (9, .int 1), (8, .int v2), (7, .int v1), (0, .ref (a 99)), (1, .int z1), (2, .int z2), (3, .int z3), (4, .int z4), (5, .int z5)]) hx hb dX5_layLooks_106 hl (k := 9) rfl rfl (by decide) rfl (fun ls hl => ?_)
                  refine lv_goto (tgt := 3) hx hb dX5_layLooks_109 (by decide) ?_
                  exact ih _ _ h _ _ hP hD hS ls (lv_sub hl [4, 5, 6, 7, 8, 9, 0] rfl)
                · have h := h.2 ct
                  refine lv_aload_n hx hb dX5_layLooks_91 rfl (lv_at hl 3 rfl) ?_
                  refine gf_X5_20 hx hb hT hown hK hP 0 rfl rfl dX5_layLooks_92 ?_
                  refine lv_bipush (v := 8) hx hb dX5_layLooks_95 (by decide) ?_
                  refine lv_iload hx hb dX5_layLooks_97 (lv_at hl 1 rfl) ?_
                  refine lv_imul hx hb dX5_layLooks_99 ?_
                  refine lv_iload hx hb dX5_layLooks_100 (lv_at hl 2 rfl) ?_
                  refine lv_iadd hx hb dX5_layLooks_102 ?_
                  refine lv_iload hx hb dX5_layLooks_103 (lv_at hl 7 rfl) ?_
                  obtain ⟨hi, h⟩ := h
                  refine va_iast hx hb hK hP hD hS 3 0 rfl rfl hi dX5_layLooks_105 (fun H locs hP hD hS => ?_)
                  obtain ⟨M6, eM6⟩ : ∃ z : ZI, z = mu Mv 4 ((8 * v2) + v1).toNatClampNeg z4 := ⟨_, rfl⟩
                  have h := h M6 eM6
                  have hP : va_P G vwCl (mdW a cs M6 Lf) H := by rw [eM6]; exact hP
                  have hD : va_D A (mdW a cs M6 Lf) := by rw [eM6]; exact hD
                  refine lv_iinc (v := y6 + 1) (lv' := [(6, .int (y6 + 1)), (9, .int 1), (8, .int v2), (7, .int v1), (0, .ref (a 99)), (1, .int z1), (2, .int z2), (3, .int z3), (4, .int z4), (5, .int z5)]) hx hb dX5_layLooks_106 hl (k := 9) rfl rfl (by decide) rfl (fun ls hl => ?_)
                  refine lv_goto (tgt := 3) hx hb dX5_layLooks_109 (by decide) ?_
                  exact ih _ _ h _ _ hP hD hS ls (lv_sub hl [4, 5, 6, 7, 8, 9, 0] rfl)
  refine lv_iconst (v := 0) hx hb dX5_layLooks_0 (by decide) ?_
  refine lv_istore (lv' := [(6, .int 0), (0, .ref (a 99)), (1, .int x1), (2, .int x2), (3, .int x3), (4, .int x4), (5, .int x5)]) hx hb dX5_layLooks_1 hl (by decide) rfl (fun ls hl => ?_)
  obtain ⟨n9, h⟩ := h
  refine HL3 _ _ _ _ _ _ _ (fun M7 v8 h H locs hP hD hS ls hl => ?_) n9 _ _ h _ _ hP hD hS ls (lv_sub hl [1, 2, 3, 4, 5, 6, 0] rfl)
  exact rt_Wv hx hb hr hlk dX5_layLooks_112 (M7, L) hP hD hS h
abbrev rm_X5_inkBy : Room := { frames := 3, cells := 0, slots := 0, locals := 75 }
set_option maxRecDepth 100000 in
set_option maxHeartbeats 4000000 in
theorem c_X5_inkBy (l : Launch) (G : va_G) (cs ts : Nat → Nat) (a : Nat → Nat) (sz : Nat)  (M : ZI) (L : ZL)   (x1 : Int32) (x2 : Int32) (x3 : Int32) (x4 : Int32) (x5 : Int32) (post : ZI → ZL → Prop) (h : w_X5_inkBy M L x1 x2 x3 x4 x5 post) : Met l yX5_inkBy [.code yX5_inkBy cX5_inkBy 8 none] rm_X5_inkBy (va_Pc [.ref (a 99), .int x1, .int x2, .int x3, .int x4, .int x5] (CP G cs ts (mdW a cs M L) sz)) (va_Qv (fun (u : ZI × ZL) => post u.1 u.2) (CB G (va_A (mdW a cs M L) sz) (fun u => (mdW a cs u.1 u.2))) (va_A (mdW a cs M L) sz)) 0 0 (va_A (mdW a cs M L) sz) := by
  refine ax_W (Qc := fun A => va_Qv (fun (u : ZI × ZL) => post u.1 u.2) (CB G A (fun u => (mdW a cs u.1 u.2))) A) (by decide) (Nat.le_of_ble_eq_true rfl) sz ?_
  intro p e s m args below meth c A hx hb hr hlk hml hown hT hC hnm H locs hP hD hS ls hl
  have hK := hC.2.1
  have hA := hC.2.2
  have hl : lv_has ls 8 [(0, .ref (a 99)), (1, .int x1), (2, .int x2), (3, .int x3), (4, .int x4), (5, .int x5)] := hl
  unfold w_X5_inkBy at h
  have HL3 : ∀ (Lf : ZL) (z1 : Int32) (z2 : Int32) (z3 : Int32) (z4 : Int32) (z5 : Int32) (K : ZI → Int32 → Prop), (∀ (Mv : ZI) (y6 : Int32), K Mv y6 → ∀ (H : Heap) (locs : List Loc), va_P G vwCl (mdW a cs Mv Lf) H → va_D A (mdW a cs Mv Lf) → va_S A s.heap H locs → ∀ ls : Array Slot, lv_has ls 8 [(0, .ref (a 99)), (1, .int z1), (2, .int z2), (3, .int z3), (4, .int z4), (5, .int z5), (6, .int y6)] → W p l e rm_X5_inkBy s m args below meth c H locs 0 0 (MQ below (va_Qv (fun (u : ZI × ZL) => post u.1 u.2) (CB G A (fun u => (mdW a cs u.1 u.2))) A) args s 0 0 A) (F0 m 24 ls [])) → ∀ (n : Nat) (Mv : ZI) (y6 : Int32), itF (w_X5_inkBy_L3 Lf z1 z2 z3 z4 z5 post K) (fun _ _ => False) n Mv y6 → ∀ (H : Heap) (locs : List Loc), va_P G vwCl (mdW a cs Mv Lf) H → va_D A (mdW a cs Mv Lf) → va_S A s.heap H locs → ∀ ls : Array Slot, lv_has ls 8 [(0, .ref (a 99)), (1, .int z1), (2, .int z2), (3, .int z3), (4, .int z4), (5, .int z5), (6, .int y6)] → W p l e rm_X5_inkBy s m args below meth c H locs 0 0 (MQ below (va_Qv (fun (u : ZI × ZL) => post u.1 u.2) (CB G A (fun u => (mdW a cs u.1 u.2))) A) args s 0 0 A) (F0 m 3 ls []) := by
    intro Lf z1 z2 z3 z4 z5 K hKK n
    induction n with
    | zero =>
      intro Mv y6 h
      exact absurd h id
    | succ n ih =>
      intro Mv y6 h H locs hP hD hS ls hl
      have h : w_X5_inkBy_L3 Lf z1 z2 z3 z4 z5 post K (itF (w_X5_inkBy_L3 Lf z1 z2 z3 z4 z5 post K) (fun _ _ => False) n) Mv y6 := h
      generalize itF (w_X5_inkBy_L3 Lf z1 z2 z3 z4 z5 post K) (fun _ _ => False) n = rec at h ih
      unfold w_X5_inkBy_L3 at h
      refine lv_iload hx hb dX5_inkBy_3 (lv_at hl 6 rfl) ?_
      refine lv_bipush (v := 64) hx hb dX5_inkBy_5 (by decide) ?_
      refine lv_icmp_ge (tgt := 24) hx hb dX5_inkBy_7 (by decide) (fun ct => ?_) (fun ct => ?_)
      · have h := h.1 ct
        exact hKK _ _ h _ _ hP hD hS ls (lv_sub hl [0, 1, 2, 3, 4, 5, 6] rfl)
      · have h := h.2 ct
        refine lv_aload_n hx hb dX5_inkBy_10 rfl (lv_at hl 0 rfl) ?_
        refine gf_X5_20 hx hb hT hown hK hP 0 rfl rfl dX5_inkBy_11 ?_
        refine lv_iload hx hb dX5_inkBy_14 (lv_at hl 6 rfl) ?_
        refine lv_iconst (v := 0) hx hb dX5_inkBy_16 (by decide) ?_
        obtain ⟨hi, h⟩ := h
        refine va_iast hx hb hK hP hD hS 3 0 rfl rfl hi dX5_inkBy_17 (fun H locs hP hD hS => ?_)
        obtain ⟨M1, eM1⟩ : ∃ z : ZI, z = mu Mv 4 y6.toNatClampNeg 0 := ⟨_, rfl⟩
        have h := h M1 eM1
        have hP : va_P G vwCl (mdW a cs M1 Lf) H := by rw [eM1]; exact hP
        have hD : va_D A (mdW a cs M1 Lf) := by rw [eM1]; exact hD
        refine lv_iinc (v := y6 + 1) (lv' := [(6, .int (y6 + 1)), (0, .ref (a 99)), (1, .int z1), (2, .int z2), (3, .int z3), (4, .int z4), (5, .int z5)]) hx hb dX5_inkBy_18 hl (k := 6) rfl rfl (by decide) rfl (fun ls hl => ?_)
        refine lv_goto (tgt := 3) hx hb dX5_inkBy_21 (by decide) ?_
        exact ih _ _ h _ _ hP hD hS ls (lv_sub hl [1, 2, 3, 4, 5, 6, 0] rfl)
  refine lv_iconst (v := 0) hx hb dX5_inkBy_0 (by decide) ?_
  refine lv_istore (lv' := [(6, .int 0), (0, .ref (a 99)), (1, .int x1), (2, .int x2), (3, .int x3), (4, .int x4), (5, .int x5)]) hx hb dX5_inkBy_1 hl (by decide) rfl (fun ls hl => ?_)
  obtain ⟨n67, h⟩ := h
  refine HL3 _ _ _ _ _ _ _ (fun M2 v3 h H locs hP hD hS ls hl => ?_) n67 _ _ h _ _ hP hD hS ls (lv_sub hl [1, 2, 3, 4, 5, 6, 0] rfl)
  refine lv_iload_n hx hb dX5_inkBy_24 rfl (lv_at hl 1 rfl) ?_
  refine lv_iload hx hb dX5_inkBy_25 (lv_at hl 5 rfl) ?_
  refine cl_Si (rn_S (rest := []) hx hb hml hown hT hl.1 ck_X5_83 (c_X5_darkBy l x1 x5 _ h) ⟨rfl, rfl, (Nat.le_of_ble_eq_true rfl), (Nat.le_of_ble_eq_true rfl)⟩ ⟨Nat.zero_le _, Nat.zero_le _⟩ rfl rfl (Nat.le_of_ble_eq_true rfl) dX5_inkBy_27) (fun r4 h => ?_)
  refine lv_istore (lv' := [(6, .int r4), (0, .ref (a 99)), (1, .int x1), (2, .int x2), (3, .int x3), (4, .int x4), (5, .int x5)]) hx hb dX5_inkBy_30 hl (by decide) rfl (fun ls hl => ?_)
  refine lv_iload_n hx hb dX5_inkBy_32 rfl (lv_at hl 2 rfl) ?_
  refine lv_iconst (v := 3) hx hb dX5_inkBy_33 (by decide) ?_
  refine lv_icmp_eq (tgt := 42) hx hb dX5_inkBy_34 (by decide) (fun ct => ?_) (fun ct => ?_)
  · have h := h.1 ct
    refine lv_iload hx hb dX5_inkBy_42 (lv_at hl 6 rfl) ?_
    refine lv_bipush (v := 8) hx hb dX5_inkBy_44 (by decide) ?_
    refine lv_icmp_le (tgt := 55) hx hb dX5_inkBy_46 (by decide) (fun ct => ?_) (fun ct => ?_)
    · have h := h.1 ct
      refine lv_iload_n hx hb dX5_inkBy_55 rfl (lv_at hl 4 rfl) ?_
      refine lv_istore (lv' := [(7, .int x3), (6, .int r4), (0, .ref (a 99)), (1, .int x1), (2, .int x2), (3, .int x3), (4, .int x4), (5, .int x5)]) hx hb dX5_inkBy_56 hl (by decide) rfl (fun ls hl => ?_)
      refine lv_aload_n hx hb dX5_inkBy_58 rfl (lv_at hl 2 rfl) ?_
      refine lv_iload_n hx hb dX5_inkBy_59 rfl (lv_at hl 4 rfl) ?_
      refine lv_iload hx hb dX5_inkBy_60 (lv_at hl 0 rfl) ?_
      refine lv_iload hx hb dX5_inkBy_62 (lv_at hl 6 rfl) ?_
      refine lv_iload hx hb dX5_inkBy_64 (lv_at hl 1 rfl) ?_
      refine lv_iload_n hx hb dX5_inkBy_66 rfl (lv_at hl 3 rfl) ?_
      refine lv_iconst (v := 4) hx hb dX5_inkBy_67 (by decide) ?_
      refine lv_icmp_ne (tgt := 81) hx hb dX5_inkBy_68 (by decide) (fun ct => ?_) (fun ct => ?_)
      · have h := h.1 ct
        refine lv_iconst (v := 0) hx hb dX5_inkBy_81 (by decide) ?_
        refine wv_allM (rn_V (rest := []) (ci := 3) hx hb hml hown hT hl.1 hC hS hP hD 0 rfl rfl rfl ck_X5_86 (c_X5_layLooks l G cs ts a H.size M2 L x2 x3 x4 r4 0 _ h) ⟨rfl, rfl, (Nat.le_of_ble_eq_true rfl), (Nat.le_of_ble_eq_true rfl)⟩ ⟨Nat.le_refl _, Nat.le_refl _⟩ rfl rfl (Nat.le_of_ble_eq_true rfl) dX5_inkBy_82) hD hS hA (fun M5 L6 H locs hP hD hS h => ?_)
        refine lv_iload_n hx hb dX5_inkBy_85 rfl (lv_at hl 3 rfl) ?_
        refine lv_iconst (v := 5) hx hb dX5_inkBy_86 (by decide) ?_
        refine lv_icmp_ne (tgt := 106) hx hb dX5_inkBy_87 (by decide) (fun ct => ?_) (fun ct => ?_)
        · have h := h.1 ct
          exact rt_Wv hx hb hr hlk dX5_inkBy_106 (M5, L6) hP hD hS h
        · have h := h.2 ct
          refine lv_aload_n hx hb dX5_inkBy_90 rfl (lv_at hl 2 rfl) ?_
          refine lv_iload_n hx hb dX5_inkBy_91 rfl (lv_at hl 4 rfl) ?_
          refine lv_iload hx hb dX5_inkBy_92 (lv_at hl 0 rfl) ?_
          refine lv_iconst (v := 1) hx hb dX5_inkBy_94 (by decide) ?_
          refine lv_iadd hx hb dX5_inkBy_95 ?_
          refine lv_iload hx hb dX5_inkBy_96 (lv_at hl 6 rfl) ?_
          refine lv_iload hx hb dX5_inkBy_98 (lv_at hl 1 rfl) ?_
          refine lv_iconst (v := 2) hx hb dX5_inkBy_100 (by decide) ?_
          refine lv_idiv hx hb dX5_inkBy_101 (by decide) ?_
          refine lv_iconst (v := 0) hx hb dX5_inkBy_102 (by decide) ?_
          refine wv_allM (rn_V (rest := []) (ci := 3) hx hb hml hown hT hl.1 hC hS hP hD 0 rfl rfl rfl ck_X5_86 (c_X5_layLooks l G cs ts a H.size M5 L6 x2 (x3 + 1) x4 (r4 / 2) 0 _ h) ⟨rfl, rfl, (Nat.le_of_ble_eq_true rfl), (Nat.le_of_ble_eq_true rfl)⟩ ⟨Nat.le_refl _, Nat.le_refl _⟩ rfl rfl (Nat.le_of_ble_eq_true rfl) dX5_inkBy_103) hD hS hA (fun M7 L8 H locs hP hD hS h => ?_)
          exact rt_Wv hx hb hr hlk dX5_inkBy_106 (M7, L8) hP hD hS h
      · have h := h.2 ct
        refine lv_iload hx hb dX5_inkBy_71 (lv_at hl 7 rfl) ?_
        refine lv_iconst (v := 4) hx hb dX5_inkBy_73 (by decide) ?_
        refine lv_icmp_ge (tgt := 81) hx hb dX5_inkBy_74 (by decide) (fun ct => ?_) (fun ct => ?_)
        · have h := h.1 ct
          refine lv_iconst (v := 0) hx hb dX5_inkBy_81 (by decide) ?_
          refine wv_allM (rn_V (rest := []) (ci := 3) hx hb hml hown hT hl.1 hC hS hP hD 0 rfl rfl rfl ck_X5_86 (c_X5_layLooks l G cs ts a H.size M2 L x2 x3 x4 r4 0 _ h) ⟨rfl, rfl, (Nat.le_of_ble_eq_true rfl), (Nat.le_of_ble_eq_true rfl)⟩ ⟨Nat.le_refl _, Nat.le_refl _⟩ rfl rfl (Nat.le_of_ble_eq_true rfl) dX5_inkBy_82) hD hS hA (fun M9 L10 H locs hP hD hS h => ?_)
          refine lv_iload_n hx hb dX5_inkBy_85 rfl (lv_at hl 3 rfl) ?_
          refine lv_iconst (v := 5) hx hb dX5_inkBy_86 (by decide) ?_
          refine lv_icmp_ne (tgt := 106) hx hb dX5_inkBy_87 (by decide) (fun ct => ?_) (fun ct => ?_)
          · have h := h.1 ct
            exact rt_Wv hx hb hr hlk dX5_inkBy_106 (M9, L10) hP hD hS h
          · have h := h.2 ct
            refine lv_aload_n hx hb dX5_inkBy_90 rfl (lv_at hl 2 rfl) ?_
            refine lv_iload_n hx hb dX5_inkBy_91 rfl (lv_at hl 4 rfl) ?_
            refine lv_iload hx hb dX5_inkBy_92 (lv_at hl 0 rfl) ?_
            refine lv_iconst (v := 1) hx hb dX5_inkBy_94 (by decide) ?_
            refine lv_iadd hx hb dX5_inkBy_95 ?_
            refine lv_iload hx hb dX5_inkBy_96 (lv_at hl 6 rfl) ?_
            refine lv_iload hx hb dX5_inkBy_98 (lv_at hl 1 rfl) ?_
            refine lv_iconst (v := 2) hx hb dX5_inkBy_100 (by decide) ?_
            refine lv_idiv hx hb dX5_inkBy_101 (by decide) ?_
            refine lv_iconst (v := 0) hx hb dX5_inkBy_102 (by decide) ?_
            refine wv_allM (rn_V (rest := []) (ci := 3) hx hb hml hown hT hl.1 hC hS hP hD 0 rfl rfl rfl ck_X5_86 (c_X5_layLooks l G cs ts a H.size M9 L10 x2 (x3 + 1) x4 (r4 / 2) 0 _ h) ⟨rfl, rfl, (Nat.le_of_ble_eq_true rfl), (Nat.le_of_ble_eq_true rfl)⟩ ⟨Nat.le_refl _, Nat.le_refl _⟩ rfl rfl (Nat.le_of_ble_eq_true rfl) dX5_inkBy_103) hD hS hA (fun M11 L12 H locs hP hD hS h => ?_)
            exact rt_Wv hx hb hr hlk dX5_inkBy_106 (M11, L12) hP hD hS h
        · have h := h.2 ct
          refine lv_iconst (v := 1) hx hb dX5_inkBy_77 (by decide) ?_
          refine lv_goto (tgt := 82) hx hb dX5_inkBy_78 (by decide) ?_
          refine wv_allM (rn_V (rest := []) (ci := 3) hx hb hml hown hT hl.1 hC hS hP hD 0 rfl rfl rfl ck_X5_86 (c_X5_layLooks l G cs ts a H.size M2 L x2 x3 x4 r4 1 _ h) ⟨rfl, rfl, (Nat.le_of_ble_eq_true rfl), (Nat.le_of_ble_eq_true rfl)⟩ ⟨Nat.le_refl _, Nat.le_refl _⟩ rfl rfl (Nat.le_of_ble_eq_true rfl) dX5_inkBy_82) hD hS hA (fun M13 L14 H locs hP hD hS h => ?_)
          refine lv_iload_n hx hb dX5_inkBy_85 rfl (lv_at hl 3 rfl) ?_
          refine lv_iconst (v := 5) hx hb dX5_inkBy_86 (by decide) ?_
          refine lv_icmp_ne (tgt := 106) hx hb dX5_inkBy_87 (by decide) (fun ct => ?_) (fun ct => ?_)
          · have h := h.1 ct
            exact rt_Wv hx hb hr hlk dX5_inkBy_106 (M13, L14) hP hD hS h
          · have h := h.2 ct
            refine lv_aload_n hx hb dX5_inkBy_90 rfl (lv_at hl 2 rfl) ?_
            refine lv_iload_n hx hb dX5_inkBy_91 rfl (lv_at hl 4 rfl) ?_
            refine lv_iload hx hb dX5_inkBy_92 (lv_at hl 0 rfl) ?_
            refine lv_iconst (v := 1) hx hb dX5_inkBy_94 (by decide) ?_
            refine lv_iadd hx hb dX5_inkBy_95 ?_
            refine lv_iload hx hb dX5_inkBy_96 (lv_at hl 6 rfl) ?_
            refine lv_iload hx hb dX5_inkBy_98 (lv_at hl 1 rfl) ?_
            refine lv_iconst (v := 2) hx hb dX5_inkBy_100 (by decide) ?_
            refine lv_idiv hx hb dX5_inkBy_101 (by decide) ?_
            refine lv_iconst (v := 0) hx hb dX5_inkBy_102 (by decide) ?_
            refine wv_allM (rn_V (rest := []) (ci := 3) hx hb hml hown hT hl.1 hC hS hP hD 0 rfl rfl rfl ck_X5_86 (c_X5_layLooks l G cs ts a H.size M13 L14 x2 (x3 + 1) x4 (r4 / 2) 0 _ h) ⟨rfl, rfl, (Nat.le_of_ble_eq_true rfl), (Nat.le_of_ble_eq_true rfl)⟩ ⟨Nat.le_refl _, Nat.le_refl _⟩ rfl rfl (Nat.le_of_ble_eq_true rfl) dX5_inkBy_103) hD hS hA (fun M15 L16 H locs hP hD hS h => ?_)
            exact rt_Wv hx hb hr hlk dX5_inkBy_106 (M15, L16) hP hD hS h
    · have h := h.2 ct
      refine lv_iload_n hx hb dX5_inkBy_49 rfl (lv_at hl 4 rfl) ?_
      refine lv_iconst (v := 1) hx hb dX5_inkBy_50 (by decide) ?_
      refine lv_iadd hx hb dX5_inkBy_51 ?_
      refine lv_goto (tgt := 56) hx hb dX5_inkBy_52 (by decide) ?_
      refine lv_topi (fun v17 ev17 => ?_)
      have h := h v17 ev17
      refine lv_istore (lv' := [(7, .int v17), (6, .int r4), (0, .ref (a 99)), (1, .int x1), (2, .int x2), (3, .int x3), (4, .int x4), (5, .int x5)]) hx hb dX5_inkBy_56 hl (by decide) rfl (fun ls hl => ?_)
      refine lv_aload_n hx hb dX5_inkBy_58 rfl (lv_at hl 2 rfl) ?_
      refine lv_iload_n hx hb dX5_inkBy_59 rfl (lv_at hl 4 rfl) ?_
      refine lv_iload hx hb dX5_inkBy_60 (lv_at hl 0 rfl) ?_
      refine lv_iload hx hb dX5_inkBy_62 (lv_at hl 6 rfl) ?_
      refine lv_iload hx hb dX5_inkBy_64 (lv_at hl 1 rfl) ?_
      refine lv_iload_n hx hb dX5_inkBy_66 rfl (lv_at hl 3 rfl) ?_
      refine lv_iconst (v := 4) hx hb dX5_inkBy_67 (by decide) ?_
      refine lv_icmp_ne (tgt := 81) hx hb dX5_inkBy_68 (by decide) (fun ct => ?_) (fun ct => ?_)
      · have h := h.1 ct
        refine lv_iconst (v := 0) hx hb dX5_inkBy_81 (by decide) ?_
        refine wv_allM (rn_V (rest := []) (ci := 3) hx hb hml hown hT hl.1 hC hS hP hD 0 rfl rfl rfl ck_X5_86 (c_X5_layLooks l G cs ts a H.size M2 L x2 v17 x4 r4 0 _ h) ⟨rfl, rfl, (Nat.le_of_ble_eq_true rfl), (Nat.le_of_ble_eq_true rfl)⟩ ⟨Nat.le_refl _, Nat.le_refl _⟩ rfl rfl (Nat.le_of_ble_eq_true rfl) dX5_inkBy_82) hD hS hA (fun M18 L19 H locs hP hD hS h => ?_)
        refine lv_iload_n hx hb dX5_inkBy_85 rfl (lv_at hl 3 rfl) ?_
        refine lv_iconst (v := 5) hx hb dX5_inkBy_86 (by decide) ?_
        refine lv_icmp_ne (tgt := 106) hx hb dX5_inkBy_87 (by decide) (fun ct => ?_) (fun ct => ?_)
        · have h := h.1 ct
          exact rt_Wv hx hb hr hlk dX5_inkBy_106 (M18, L19) hP hD hS h
        · have h := h.2 ct
          refine lv_aload_n hx hb dX5_inkBy_90 rfl (lv_at hl 2 rfl) ?_
          refine lv_iload_n hx hb dX5_inkBy_91 rfl (lv_at hl 4 rfl) ?_
          refine lv_iload hx hb dX5_inkBy_92 (lv_at hl 0 rfl) ?_
          refine lv_iconst (v := 1) hx hb dX5_inkBy_94 (by decide) ?_
          refine lv_iadd hx hb dX5_inkBy_95 ?_
          refine lv_iload hx hb dX5_inkBy_96 (lv_at hl 6 rfl) ?_
          refine lv_iload hx hb dX5_inkBy_98 (lv_at hl 1 rfl) ?_
          refine lv_iconst (v := 2) hx hb dX5_inkBy_100 (by decide) ?_
          refine lv_idiv hx hb dX5_inkBy_101 (by decide) ?_
          refine lv_iconst (v := 0) hx hb dX5_inkBy_102 (by decide) ?_
          refine wv_allM (rn_V (rest := []) (ci := 3) hx hb hml hown hT hl.1 hC hS hP hD 0 rfl rfl rfl ck_X5_86 (c_X5_layLooks l G cs ts a H.size M18 L19 x2 (v17 + 1) x4 (r4 / 2) 0 _ h) ⟨rfl, rfl, (Nat.le_of_ble_eq_true rfl), (Nat.le_of_ble_eq_true rfl)⟩ ⟨Nat.le_refl _, Nat.le_refl _⟩ rfl rfl (Nat.le_of_ble_eq_true rfl) dX5_inkBy_103) hD hS hA (fun M20 L21 H locs hP hD hS h => ?_)
          exact rt_Wv hx hb hr hlk dX5_inkBy_106 (M20, L21) hP hD hS h
      · have h := h.2 ct
        refine lv_iload hx hb dX5_inkBy_71 (lv_at hl 7 rfl) ?_
        refine lv_iconst (v := 4) hx hb dX5_inkBy_73 (by decide) ?_
        refine lv_icmp_ge (tgt := 81) hx hb dX5_inkBy_74 (by decide) (fun ct => ?_) (fun ct => ?_)
        · have h := h.1 ct
          refine lv_iconst (v := 0) hx hb dX5_inkBy_81 (by decide) ?_
          refine wv_allM (rn_V (rest := []) (ci := 3) hx hb hml hown hT hl.1 hC hS hP hD 0 rfl rfl rfl ck_X5_86 (c_X5_layLooks l G cs ts a H.size M2 L x2 v17 x4 r4 0 _ h) ⟨rfl, rfl, (Nat.le_of_ble_eq_true rfl), (Nat.le_of_ble_eq_true rfl)⟩ ⟨Nat.le_refl _, Nat.le_refl _⟩ rfl rfl (Nat.le_of_ble_eq_true rfl) dX5_inkBy_82) hD hS hA (fun M22 L23 H locs hP hD hS h => ?_)
          refine lv_iload_n hx hb dX5_inkBy_85 rfl (lv_at hl 3 rfl) ?_
          refine lv_iconst (v := 5) hx hb dX5_inkBy_86 (by decide) ?_
          refine lv_icmp_ne (tgt := 106) hx hb dX5_inkBy_87 (by decide) (fun ct => ?_) (fun ct => ?_)
          · have h := h.1 ct
            exact rt_Wv hx hb hr hlk dX5_inkBy_106 (M22, L23) hP hD hS h
          · have h := h.2 ct
            refine lv_aload_n hx hb dX5_inkBy_90 rfl (lv_at hl 2 rfl) ?_
            refine lv_iload_n hx hb dX5_inkBy_91 rfl (lv_at hl 4 rfl) ?_
            refine lv_iload hx hb dX5_inkBy_92 (lv_at hl 0 rfl) ?_
            refine lv_iconst (v := 1) hx hb dX5_inkBy_94 (by decide) ?_
            refine lv_iadd hx hb dX5_inkBy_95 ?_
            refine lv_iload hx hb dX5_inkBy_96 (lv_at hl 6 rfl) ?_
            refine lv_iload hx hb dX5_inkBy_98 (lv_at hl 1 rfl) ?_
            refine lv_iconst (v := 2) hx hb dX5_inkBy_100 (by decide) ?_
            refine lv_idiv hx hb dX5_inkBy_101 (by decide) ?_
            refine lv_iconst (v := 0) hx hb dX5_inkBy_102 (by decide) ?_
            refine wv_allM (rn_V (rest := []) (ci := 3) hx hb hml hown hT hl.1 hC hS hP hD 0 rfl rfl rfl ck_X5_86 (c_X5_layLooks l G cs ts a H.size M22 L23 x2 (v17 + 1) x4 (r4 / 2) 0 _ h) ⟨rfl, rfl, (Nat.le_of_ble_eq_true rfl), (Nat.le_of_ble_eq_true rfl)⟩ ⟨Nat.le_refl _, Nat.le_refl _⟩ rfl rfl (Nat.le_of_ble_eq_true rfl) dX5_inkBy_103) hD hS hA (fun M24 L25 H locs hP hD hS h => ?_)
            exact rt_Wv hx hb hr hlk dX5_inkBy_106 (M24, L25) hP hD hS h
        · have h := h.2 ct
          refine lv_iconst (v := 1) hx hb dX5_inkBy_77 (by decide) ?_
          refine lv_goto (tgt := 82) hx hb dX5_inkBy_78 (by decide) ?_
          refine wv_allM (rn_V (rest := []) (ci := 3) hx hb hml hown hT hl.1 hC hS hP hD 0 rfl rfl rfl ck_X5_86 (c_X5_layLooks l G cs ts a H.size M2 L x2 v17 x4 r4 1 _ h) ⟨rfl, rfl, (Nat.le_of_ble_eq_true rfl), (Nat.le_of_ble_eq_true rfl)⟩ ⟨Nat.le_refl _, Nat.le_refl _⟩ rfl rfl (Nat.le_of_ble_eq_true rfl) dX5_inkBy_82) hD hS hA (fun M26 L27 H locs hP hD hS h => ?_)
          refine lv_iload_n hx hb dX5_inkBy_85 rfl (lv_at hl 3 rfl) ?_
          refine lv_iconst (v := 5) hx hb dX5_inkBy_86 (by decide) ?_
          refine lv_icmp_ne (tgt := 106) hx hb dX5_inkBy_87 (by decide) (fun ct => ?_) (fun ct => ?_)
          · have h := h.1 ct
            exact rt_Wv hx hb hr hlk dX5_inkBy_106 (M26, L27) hP hD hS h
          · have h := h.2 ct
            refine lv_aload_n hx hb dX5_inkBy_90 rfl (lv_at hl 2 rfl) ?_
            refine lv_iload_n hx hb dX5_inkBy_91 rfl (lv_at hl 4 rfl) ?_
            refine lv_iload hx hb dX5_inkBy_92 (lv_at hl 0 rfl) ?_
            refine lv_iconst (v := 1) hx hb dX5_inkBy_94 (by decide) ?_
            refine lv_iadd hx hb dX5_inkBy_95 ?_
            refine lv_iload hx hb dX5_inkBy_96 (lv_at hl 6 rfl) ?_
            refine lv_iload hx hb dX5_inkBy_98 (lv_at hl 1 rfl) ?_
            refine lv_iconst (v := 2) hx hb dX5_inkBy_100 (by decide) ?_
            refine lv_idiv hx hb dX5_inkBy_101 (by decide) ?_
            refine lv_iconst (v := 0) hx hb dX5_inkBy_102 (by decide) ?_
            refine wv_allM (rn_V (rest := []) (ci := 3) hx hb hml hown hT hl.1 hC hS hP hD 0 rfl rfl rfl ck_X5_86 (c_X5_layLooks l G cs ts a H.size M26 L27 x2 (v17 + 1) x4 (r4 / 2) 0 _ h) ⟨rfl, rfl, (Nat.le_of_ble_eq_true rfl), (Nat.le_of_ble_eq_true rfl)⟩ ⟨Nat.le_refl _, Nat.le_refl _⟩ rfl rfl (Nat.le_of_ble_eq_true rfl) dX5_inkBy_103) hD hS hA (fun M28 L29 H locs hP hD hS h => ?_)
            exact rt_Wv hx hb hr hlk dX5_inkBy_106 (M28, L29) hP hD hS h
  · have h := h.2 ct
    refine lv_iload_n hx hb dX5_inkBy_37 rfl (lv_at hl 2 rfl) ?_
    refine lv_iconst (v := 5) hx hb dX5_inkBy_38 (by decide) ?_
    refine lv_icmp_ne (tgt := 55) hx hb dX5_inkBy_39 (by decide) (fun ct => ?_) (fun ct => ?_)
    · have h := h.1 ct
      refine lv_iload_n hx hb dX5_inkBy_55 rfl (lv_at hl 4 rfl) ?_
      refine lv_istore (lv' := [(7, .int x3), (6, .int r4), (0, .ref (a 99)), (1, .int x1), (2, .int x2), (3, .int x3), (4, .int x4), (5, .int x5)]) hx hb dX5_inkBy_56 hl (by decide) rfl (fun ls hl => ?_)
      refine lv_aload_n hx hb dX5_inkBy_58 rfl (lv_at hl 2 rfl) ?_
      refine lv_iload_n hx hb dX5_inkBy_59 rfl (lv_at hl 4 rfl) ?_
      refine lv_iload hx hb dX5_inkBy_60 (lv_at hl 0 rfl) ?_
      refine lv_iload hx hb dX5_inkBy_62 (lv_at hl 6 rfl) ?_
      refine lv_iload hx hb dX5_inkBy_64 (lv_at hl 1 rfl) ?_
      refine lv_iload_n hx hb dX5_inkBy_66 rfl (lv_at hl 3 rfl) ?_
      refine lv_iconst (v := 4) hx hb dX5_inkBy_67 (by decide) ?_
      refine lv_icmp_ne (tgt := 81) hx hb dX5_inkBy_68 (by decide) (fun ct => ?_) (fun ct => ?_)
      · have h := h.1 ct
        refine lv_iconst (v := 0) hx hb dX5_inkBy_81 (by decide) ?_
        refine wv_allM (rn_V (rest := []) (ci := 3) hx hb hml hown hT hl.1 hC hS hP hD 0 rfl rfl rfl ck_X5_86 (c_X5_layLooks l G cs ts a H.size M2 L x2 x3 x4 r4 0 _ h) ⟨rfl, rfl, (Nat.le_of_ble_eq_true rfl), (Nat.le_of_ble_eq_true rfl)⟩ ⟨Nat.le_refl _, Nat.le_refl _⟩ rfl rfl (Nat.le_of_ble_eq_true rfl) dX5_inkBy_82) hD hS hA (fun M30 L31 H locs hP hD hS h => ?_)
        refine lv_iload_n hx hb dX5_inkBy_85 rfl (lv_at hl 3 rfl) ?_
        refine lv_iconst (v := 5) hx hb dX5_inkBy_86 (by decide) ?_
        refine lv_icmp_ne (tgt := 106) hx hb dX5_inkBy_87 (by decide) (fun ct => ?_) (fun ct => ?_)
        · have h := h.1 ct
          exact rt_Wv hx hb hr hlk dX5_inkBy_106 (M30, L31) hP hD hS h
        · have h := h.2 ct
          refine lv_aload_n hx hb dX5_inkBy_90 rfl (lv_at hl 2 rfl) ?_
          refine lv_iload_n hx hb dX5_inkBy_91 rfl (lv_at hl 4 rfl) ?_
          refine lv_iload hx hb dX5_inkBy_92 (lv_at hl 0 rfl) ?_
          refine lv_iconst (v := 1) hx hb dX5_inkBy_94 (by decide) ?_
          refine lv_iadd hx hb dX5_inkBy_95 ?_
          refine lv_iload hx hb dX5_inkBy_96 (lv_at hl 6 rfl) ?_
          refine lv_iload hx hb dX5_inkBy_98 (lv_at hl 1 rfl) ?_
          refine lv_iconst (v := 2) hx hb dX5_inkBy_100 (by decide) ?_
          refine lv_idiv hx hb dX5_inkBy_101 (by decide) ?_
          refine lv_iconst (v := 0) hx hb dX5_inkBy_102 (by decide) ?_
          refine wv_allM (rn_V (rest := []) (ci := 3) hx hb hml hown hT hl.1 hC hS hP hD 0 rfl rfl rfl ck_X5_86 (c_X5_layLooks l G cs ts a H.size M30 L31 x2 (x3 + 1) x4 (r4 / 2) 0 _ h) ⟨rfl, rfl, (Nat.le_of_ble_eq_true rfl), (Nat.le_of_ble_eq_true rfl)⟩ ⟨Nat.le_refl _, Nat.le_refl _⟩ rfl rfl (Nat.le_of_ble_eq_true rfl) dX5_inkBy_103) hD hS hA (fun M32 L33 H locs hP hD hS h => ?_)
          exact rt_Wv hx hb hr hlk dX5_inkBy_106 (M32, L33) hP hD hS h
      · have h := h.2 ct
        refine lv_iload hx hb dX5_inkBy_71 (lv_at hl 7 rfl) ?_
        refine lv_iconst (v := 4) hx hb dX5_inkBy_73 (by decide) ?_
        refine lv_icmp_ge (tgt := 81) hx hb dX5_inkBy_74 (by decide) (fun ct => ?_) (fun ct => ?_)
        · have h := h.1 ct
          refine lv_iconst (v := 0) hx hb dX5_inkBy_81 (by decide) ?_
          refine wv_allM (rn_V (rest := []) (ci := 3) hx hb hml hown hT hl.1 hC hS hP hD 0 rfl rfl rfl ck_X5_86 (c_X5_layLooks l G cs ts a H.size M2 L x2 x3 x4 r4 0 _ h) ⟨rfl, rfl, (Nat.le_of_ble_eq_true rfl), (Nat.le_of_ble_eq_true rfl)⟩ ⟨Nat.le_refl _, Nat.le_refl _⟩ rfl rfl (Nat.le_of_ble_eq_true rfl) dX5_inkBy_82) hD hS hA (fun M34 L35 H locs hP hD hS h => ?_)
          refine lv_iload_n hx hb dX5_inkBy_85 rfl (lv_at hl 3 rfl) ?_
          refine lv_iconst (v := 5) hx hb dX5_inkBy_86 (by decide) ?_
          refine lv_icmp_ne (tgt := 106) hx hb dX5_inkBy_87 (by decide) (fun ct => ?_) (fun ct => ?_)
          · have h := h.1 ct
            exact rt_Wv hx hb hr hlk dX5_inkBy_106 (M34, L35) hP hD hS h
          · have h := h.2 ct
            refine lv_aload_n hx hb dX5_inkBy_90 rfl (lv_at hl 2 rfl) ?_
            refine lv_iload_n hx hb dX5_inkBy_91 rfl (lv_at hl 4 rfl) ?_
            refine lv_iload hx hb dX5_inkBy_92 (lv_at hl 0 rfl) ?_
            refine lv_iconst (v := 1) hx hb dX5_inkBy_94 (by decide) ?_
            refine lv_iadd hx hb dX5_inkBy_95 ?_
            refine lv_iload hx hb dX5_inkBy_96 (lv_at hl 6 rfl) ?_
            refine lv_iload hx hb dX5_inkBy_98 (lv_at hl 1 rfl) ?_
            refine lv_iconst (v := 2) hx hb dX5_inkBy_100 (by decide) ?_
            refine lv_idiv hx hb dX5_inkBy_101 (by decide) ?_
            refine lv_iconst (v := 0) hx hb dX5_inkBy_102 (by decide) ?_
            refine wv_allM (rn_V (rest := []) (ci := 3) hx hb hml hown hT hl.1 hC hS hP hD 0 rfl rfl rfl ck_X5_86 (c_X5_layLooks l G cs ts a H.size M34 L35 x2 (x3 + 1) x4 (r4 / 2) 0 _ h) ⟨rfl, rfl, (Nat.le_of_ble_eq_true rfl), (Nat.le_of_ble_eq_true rfl)⟩ ⟨Nat.le_refl _, Nat.le_refl _⟩ rfl rfl (Nat.le_of_ble_eq_true rfl) dX5_inkBy_103) hD hS hA (fun M36 L37 H locs hP hD hS h => ?_)
            exact rt_Wv hx hb hr hlk dX5_inkBy_106 (M36, L37) hP hD hS h
        · have h := h.2 ct
          refine lv_iconst (v := 1) hx hb dX5_inkBy_77 (by decide) ?_
          refine lv_goto (tgt := 82) hx hb dX5_inkBy_78 (by decide) ?_
          refine wv_allM (rn_V (rest := []) (ci := 3) hx hb hml hown hT hl.1 hC hS hP hD 0 rfl rfl rfl ck_X5_86 (c_X5_layLooks l G cs ts a H.size M2 L x2 x3 x4 r4 1 _ h) ⟨rfl, rfl, (Nat.le_of_ble_eq_true rfl), (Nat.le_of_ble_eq_true rfl)⟩ ⟨Nat.le_refl _, Nat.le_refl _⟩ rfl rfl (Nat.le_of_ble_eq_true rfl) dX5_inkBy_82) hD hS hA (fun M38 L39 H locs hP hD hS h => ?_)
          refine lv_iload_n hx hb dX5_inkBy_85 rfl (lv_at hl 3 rfl) ?_
          refine lv_iconst (v := 5) hx hb dX5_inkBy_86 (by decide) ?_
          refine lv_icmp_ne (tgt := 106) hx hb dX5_inkBy_87 (by decide) (fun ct => ?_) (fun ct => ?_)
          · have h := h.1 ct
            exact rt_Wv hx hb hr hlk dX5_inkBy_106 (M38, L39) hP hD hS h
          · have h := h.2 ct
            refine lv_aload_n hx hb dX5_inkBy_90 rfl (lv_at hl 2 rfl) ?_
            refine lv_iload_n hx hb dX5_inkBy_91 rfl (lv_at hl 4 rfl) ?_
            refine lv_iload hx hb dX5_inkBy_92 (lv_at hl 0 rfl) ?_
            refine lv_iconst (v := 1) hx hb dX5_inkBy_94 (by decide) ?_
            refine lv_iadd hx hb dX5_inkBy_95 ?_
            refine lv_iload hx hb dX5_inkBy_96 (lv_at hl 6 rfl) ?_
            refine lv_iload hx hb dX5_inkBy_98 (lv_at hl 1 rfl) ?_
            refine lv_iconst (v := 2) hx hb dX5_inkBy_100 (by decide) ?_
            refine lv_idiv hx hb dX5_inkBy_101 (by decide) ?_
            refine lv_iconst (v := 0) hx hb dX5_inkBy_102 (by decide) ?_
            refine wv_allM (rn_V (rest := []) (ci := 3) hx hb hml hown hT hl.1 hC hS hP hD 0 rfl rfl rfl ck_X5_86 (c_X5_layLooks l G cs ts a H.size M38 L39 x2 (x3 + 1) x4 (r4 / 2) 0 _ h) ⟨rfl, rfl, (Nat.le_of_ble_eq_true rfl), (Nat.le_of_ble_eq_true rfl)⟩ ⟨Nat.le_refl _, Nat.le_refl _⟩ rfl rfl (Nat.le_of_ble_eq_true rfl) dX5_inkBy_103) hD hS hA (fun M40 L41 H locs hP hD hS h => ?_)
            exact rt_Wv hx hb hr hlk dX5_inkBy_106 (M40, L41) hP hD hS h
    · have h := h.2 ct
      refine lv_iload hx hb dX5_inkBy_42 (lv_at hl 6 rfl) ?_
      refine lv_bipush (v := 8) hx hb dX5_inkBy_44 (by decide) ?_
      refine lv_icmp_le (tgt := 55) hx hb dX5_inkBy_46 (by decide) (fun ct => ?_) (fun ct => ?_)
      · have h := h.1 ct
        refine lv_iload_n hx hb dX5_inkBy_55 rfl (lv_at hl 4 rfl) ?_
        refine lv_istore (lv' := [(7, .int x3), (6, .int r4), (0, .ref (a 99)), (1, .int x1), (2, .int x2), (3, .int x3), (4, .int x4), (5, .int x5)]) hx hb dX5_inkBy_56 hl (by decide) rfl (fun ls hl => ?_)
        refine lv_aload_n hx hb dX5_inkBy_58 rfl (lv_at hl 2 rfl) ?_
        refine lv_iload_n hx hb dX5_inkBy_59 rfl (lv_at hl 4 rfl) ?_
        refine lv_iload hx hb dX5_inkBy_60 (lv_at hl 0 rfl) ?_
        refine lv_iload hx hb dX5_inkBy_62 (lv_at hl 6 rfl) ?_
        refine lv_iload hx hb dX5_inkBy_64 (lv_at hl 1 rfl) ?_
        refine lv_iload_n hx hb dX5_inkBy_66 rfl (lv_at hl 3 rfl) ?_
        refine lv_iconst (v := 4) hx hb dX5_inkBy_67 (by decide) ?_
        refine lv_icmp_ne (tgt := 81) hx hb dX5_inkBy_68 (by decide) (fun ct => ?_) (fun ct => ?_)
        · have h := h.1 ct
          refine lv_iconst (v := 0) hx hb dX5_inkBy_81 (by decide) ?_
          refine wv_allM (rn_V (rest := []) (ci := 3) hx hb hml hown hT hl.1 hC hS hP hD 0 rfl rfl rfl ck_X5_86 (c_X5_layLooks l G cs ts a H.size M2 L x2 x3 x4 r4 0 _ h) ⟨rfl, rfl, (Nat.le_of_ble_eq_true rfl), (Nat.le_of_ble_eq_true rfl)⟩ ⟨Nat.le_refl _, Nat.le_refl _⟩ rfl rfl (Nat.le_of_ble_eq_true rfl) dX5_inkBy_82) hD hS hA (fun M42 L43 H locs hP hD hS h => ?_)
          refine lv_iload_n hx hb dX5_inkBy_85 rfl (lv_at hl 3 rfl) ?_
          refine lv_iconst (v := 5) hx hb dX5_inkBy_86 (by decide) ?_
          refine lv_icmp_ne (tgt := 106) hx hb dX5_inkBy_87 (by decide) (fun ct => ?_) (fun ct => ?_)
          · have h := h.1 ct
            exact rt_Wv hx hb hr hlk dX5_inkBy_106 (M42, L43) hP hD hS h
          · have h := h.2 ct
            refine lv_aload_n hx hb dX5_inkBy_90 rfl (lv_at hl 2 rfl) ?_
            refine lv_iload_n hx hb dX5_inkBy_91 rfl (lv_at hl 4 rfl) ?_
            refine lv_iload hx hb dX5_inkBy_92 (lv_at hl 0 rfl) ?_
            refine lv_iconst (v := 1) hx hb dX5_inkBy_94 (by decide) ?_
            refine lv_iadd hx hb dX5_inkBy_95 ?_
            refine lv_iload hx hb dX5_inkBy_96 (lv_at hl 6 rfl) ?_
            refine lv_iload hx hb dX5_inkBy_98 (lv_at hl 1 rfl) ?_
            refine lv_iconst (v := 2) hx hb dX5_inkBy_100 (by decide) ?_
            refine lv_idiv hx hb dX5_inkBy_101 (by decide) ?_
            refine lv_iconst (v := 0) hx hb dX5_inkBy_102 (by decide) ?_
            refine wv_allM (rn_V (rest := []) (ci := 3) hx hb hml hown hT hl.1 hC hS hP hD 0 rfl rfl rfl ck_X5_86 (c_X5_layLooks l G cs ts a H.size M42 L43 x2 (x3 + 1) x4 (r4 / 2) 0 _ h) ⟨rfl, rfl, (Nat.le_of_ble_eq_true rfl), (Nat.le_of_ble_eq_true rfl)⟩ ⟨Nat.le_refl _, Nat.le_refl _⟩ rfl rfl (Nat.le_of_ble_eq_true rfl) dX5_inkBy_103) hD hS hA (fun M44 L45 H locs hP hD hS h => ?_)
            exact rt_Wv hx hb hr hlk dX5_inkBy_106 (M44, L45) hP hD hS h
        · have h := h.2 ct
          refine lv_iload hx hb dX5_inkBy_71 (lv_at hl 7 rfl) ?_
          refine lv_iconst (v := 4) hx hb dX5_inkBy_73 (by decide) ?_
          refine lv_icmp_ge (tgt := 81) hx hb dX5_inkBy_74 (by decide) (fun ct => ?_) (fun ct => ?_)
          · have h := h.1 ct
            refine lv_iconst (v := 0) hx hb dX5_inkBy_81 (by decide) ?_
            refine wv_allM (rn_V (rest := []) (ci := 3) hx hb hml hown hT hl.1 hC hS hP hD 0 rfl rfl rfl ck_X5_86 (c_X5_layLooks l G cs ts a H.size M2 L x2 x3 x4 r4 0 _ h) ⟨rfl, rfl, (Nat.le_of_ble_eq_true rfl), (Nat.le_of_ble_eq_true rfl)⟩ ⟨Nat.le_refl _, Nat.le_refl _⟩ rfl rfl (Nat.le_of_ble_eq_true rfl) dX5_inkBy_82) hD hS hA (fun M46 L47 H locs hP hD hS h => ?_)
            refine lv_iload_n hx hb dX5_inkBy_85 rfl (lv_at hl 3 rfl) ?_
            refine lv_iconst (v := 5) hx hb dX5_inkBy_86 (by decide) ?_
            refine lv_icmp_ne (tgt := 106) hx hb dX5_inkBy_87 (by decide) (fun ct => ?_) (fun ct => ?_)
            · have h := h.1 ct
              exact rt_Wv hx hb hr hlk dX5_inkBy_106 (M46, L47) hP hD hS h
            · have h := h.2 ct
              refine lv_aload_n hx hb dX5_inkBy_90 rfl (lv_at hl 2 rfl) ?_
              refine lv_iload_n hx hb dX5_inkBy_91 rfl (lv_at hl 4 rfl) ?_
              refine lv_iload hx hb dX5_inkBy_92 (lv_at hl 0 rfl) ?_
              refine lv_iconst (v := 1) hx hb dX5_inkBy_94 (by decide) ?_
              refine lv_iadd hx hb dX5_inkBy_95 ?_
              refine lv_iload hx hb dX5_inkBy_96 (lv_at hl 6 rfl) ?_
              refine lv_iload hx hb dX5_inkBy_98 (lv_at hl 1 rfl) ?_
              refine lv_iconst (v := 2) hx hb dX5_inkBy_100 (by decide) ?_
              refine lv_idiv hx hb dX5_inkBy_101 (by decide) ?_
              refine lv_iconst (v := 0) hx hb dX5_inkBy_102 (by decide) ?_
              refine wv_allM (rn_V (rest := []) (ci := 3) hx hb hml hown hT hl.1 hC hS hP hD 0 rfl rfl rfl ck_X5_86 (c_X5_layLooks l G cs ts a H.size M46 L47 x2 (x3 + 1) x4 (r4 / 2) 0 _ h) ⟨rfl, rfl, (Nat.le_of_ble_eq_true rfl), (Nat.le_of_ble_eq_true rfl)⟩ ⟨Nat.le_refl _, Nat.le_refl _⟩ rfl rfl (Nat.le_of_ble_eq_true rfl) dX5_inkBy_103) hD hS hA (fun M48 L49 H locs hP hD hS h => ?_)
              exact rt_Wv hx hb hr hlk dX5_inkBy_106 (M48, L49) hP hD hS h
          · have h := h.2 ct
            refine lv_iconst (v := 1) hx hb dX5_inkBy_77 (by decide) ?_
            refine lv_goto (tgt := 82) hx hb dX5_inkBy_78 (by decide) ?_
            refine wv_allM (rn_V (rest := []) (ci := 3) hx hb hml hown hT hl.1 hC hS hP hD 0 rfl rfl rfl ck_X5_86 (c_X5_layLooks l G cs ts a H.size M2 L x2 x3 x4 r4 1 _ h) ⟨rfl, rfl, (Nat.le_of_ble_eq_true rfl), (Nat.le_of_ble_eq_true rfl)⟩ ⟨Nat.le_refl _, Nat.le_refl _⟩ rfl rfl (Nat.le_of_ble_eq_true rfl) dX5_inkBy_82) hD hS hA (fun M50 L51 H locs hP hD hS h => ?_)
            refine lv_iload_n hx hb dX5_inkBy_85 rfl (lv_at hl 3 rfl) ?_
            refine lv_iconst (v := 5) hx hb dX5_inkBy_86 (by decide) ?_
            refine lv_icmp_ne (tgt := 106) hx hb dX5_inkBy_87 (by decide) (fun ct => ?_) (fun ct => ?_)
            · have h := h.1 ct
              exact rt_Wv hx hb hr hlk dX5_inkBy_106 (M50, L51) hP hD hS h
            · have h := h.2 ct
              refine lv_aload_n hx hb dX5_inkBy_90 rfl (lv_at hl 2 rfl) ?_
              refine lv_iload_n hx hb dX5_inkBy_91 rfl (lv_at hl 4 rfl) ?_
              refine lv_iload hx hb dX5_inkBy_92 (lv_at hl 0 rfl) ?_
              refine lv_iconst (v := 1) hx hb dX5_inkBy_94 (by decide) ?_
              refine lv_iadd hx hb dX5_inkBy_95 ?_
              refine lv_iload hx hb dX5_inkBy_96 (lv_at hl 6 rfl) ?_
              refine lv_iload hx hb dX5_inkBy_98 (lv_at hl 1 rfl) ?_
              refine lv_iconst (v := 2) hx hb dX5_inkBy_100 (by decide) ?_
              refine lv_idiv hx hb dX5_inkBy_101 (by decide) ?_
              refine lv_iconst (v := 0) hx hb dX5_inkBy_102 (by decide) ?_
              refine wv_allM (rn_V (rest := []) (ci := 3) hx hb hml hown hT hl.1 hC hS hP hD 0 rfl rfl rfl ck_X5_86 (c_X5_layLooks l G cs ts a H.size M50 L51 x2 (x3 + 1) x4 (r4 / 2) 0 _ h) ⟨rfl, rfl, (Nat.le_of_ble_eq_true rfl), (Nat.le_of_ble_eq_true rfl)⟩ ⟨Nat.le_refl _, Nat.le_refl _⟩ rfl rfl (Nat.le_of_ble_eq_true rfl) dX5_inkBy_103) hD hS hA (fun M52 L53 H locs hP hD hS h => ?_)
              exact rt_Wv hx hb hr hlk dX5_inkBy_106 (M52, L53) hP hD hS h
      · have h := h.2 ct
        refine lv_iload_n hx hb dX5_inkBy_49 rfl (lv_at hl 4 rfl) ?_
        refine lv_iconst (v := 1) hx hb dX5_inkBy_50 (by decide) ?_
        refine lv_iadd hx hb dX5_inkBy_51 ?_
        refine lv_goto (tgt := 56) hx hb dX5_inkBy_52 (by decide) ?_
        refine lv_topi (fun v54 ev54 => ?_)
        have h := h v54 ev54
        refine lv_istore (lv' := [(7, .int v54), (6, .int r4), (0, .ref (a 99)), (1, .int x1), (2, .int x2), (3, .int x3), (4, .int x4), (5, .int x5)]) hx hb dX5_inkBy_56 hl (by decide) rfl (fun ls hl => ?_)
        refine lv_aload_n hx hb dX5_inkBy_58 rfl (lv_at hl 2 rfl) ?_
        refine lv_iload_n hx hb dX5_inkBy_59 rfl (lv_at hl 4 rfl) ?_
        refine lv_iload hx hb dX5_inkBy_60 (lv_at hl 0 rfl) ?_
        refine lv_iload hx hb dX5_inkBy_62 (lv_at hl 6 rfl) ?_
        refine lv_iload hx hb dX5_inkBy_64 (lv_at hl 1 rfl) ?_
        refine lv_iload_n hx hb dX5_inkBy_66 rfl (lv_at hl 3 rfl) ?_
        refine lv_iconst (v := 4) hx hb dX5_inkBy_67 (by decide) ?_
        refine lv_icmp_ne (tgt := 81) hx hb dX5_inkBy_68 (by decide) (fun ct => ?_) (fun ct => ?_)
        · have h := h.1 ct
          refine lv_iconst (v := 0) hx hb dX5_inkBy_81 (by decide) ?_
          refine wv_allM (rn_V (rest := []) (ci := 3) hx hb hml hown hT hl.1 hC hS hP hD 0 rfl rfl rfl ck_X5_86 (c_X5_layLooks l G cs ts a H.size M2 L x2 v54 x4 r4 0 _ h) ⟨rfl, rfl, (Nat.le_of_ble_eq_true rfl), (Nat.le_of_ble_eq_true rfl)⟩ ⟨Nat.le_refl _, Nat.le_refl _⟩ rfl rfl (Nat.le_of_ble_eq_true rfl) dX5_inkBy_82) hD hS hA (fun M55 L56 H locs hP hD hS h => ?_)
          refine lv_iload_n hx hb dX5_inkBy_85 rfl (lv_at hl 3 rfl) ?_
          refine lv_iconst (v := 5) hx hb dX5_inkBy_86 (by decide) ?_
          refine lv_icmp_ne (tgt := 106) hx hb dX5_inkBy_87 (by decide) (fun ct => ?_) (fun ct => ?_)
          · have h := h.1 ct
            exact rt_Wv hx hb hr hlk dX5_inkBy_106 (M55, L56) hP hD hS h
          · have h := h.2 ct
            refine lv_aload_n hx hb dX5_inkBy_90 rfl (lv_at hl 2 rfl) ?_
            refine lv_iload_n hx hb dX5_inkBy_91 rfl (lv_at hl 4 rfl) ?_
            refine lv_iload hx hb dX5_inkBy_92 (lv_at hl 0 rfl) ?_
            refine lv_iconst (v := 1) hx hb dX5_inkBy_94 (by decide) ?_
            refine lv_iadd hx hb dX5_inkBy_95 ?_
            refine lv_iload hx hb dX5_inkBy_96 (lv_at hl 6 rfl) ?_
            refine lv_iload hx hb dX5_inkBy_98 (lv_at hl 1 rfl) ?_
            refine lv_iconst (v := 2) hx hb dX5_inkBy_100 (by decide) ?_
            refine lv_idiv hx hb dX5_inkBy_101 (by decide) ?_
            refine lv_iconst (v := 0) hx hb dX5_inkBy_102 (by decide) ?_
            refine wv_allM (rn_V (rest := []) (ci := 3) hx hb hml hown hT hl.1 hC hS hP hD 0 rfl rfl rfl ck_X5_86 (c_X5_layLooks l G cs ts a H.size M55 L56 x2 (v54 + 1) x4 (r4 / 2) 0 _ h) ⟨rfl, rfl, (Nat.le_of_ble_eq_true rfl), (Nat.le_of_ble_eq_true rfl)⟩ ⟨Nat.le_refl _, Nat.le_refl _⟩ rfl rfl (Nat.le_of_ble_eq_true rfl) dX5_inkBy_103) hD hS hA (fun M57 L58 H locs hP hD hS h => ?_)
            exact rt_Wv hx hb hr hlk dX5_inkBy_106 (M57, L58) hP hD hS h
        · have h := h.2 ct
          refine lv_iload hx hb dX5_inkBy_71 (lv_at hl 7 rfl) ?_
          refine lv_iconst (v := 4) hx hb dX5_inkBy_73 (by decide) ?_
          refine lv_icmp_ge (tgt := 81) hx hb dX5_inkBy_74 (by decide) (fun ct => ?_) (fun ct => ?_)
          · have h := h.1 ct
            refine lv_iconst (v := 0) hx hb dX5_inkBy_81 (by decide) ?_
            refine wv_allM (rn_V (rest := []) (ci := 3) hx hb hml hown hT hl.1 hC hS hP hD 0 rfl rfl rfl ck_X5_86 (c_X5_layLooks l G cs ts a H.size M2 L x2 v54 x4 r4 0 _ h) ⟨rfl, rfl, (Nat.le_of_ble_eq_true rfl), (Nat.le_of_ble_eq_true rfl)⟩ ⟨Nat.le_refl _, Nat.le_refl _⟩ rfl rfl (Nat.le_of_ble_eq_true rfl) dX5_inkBy_82) hD hS hA (fun M59 L60 H locs hP hD hS h => ?_)
            refine lv_iload_n hx hb dX5_inkBy_85 rfl (lv_at hl 3 rfl) ?_
            refine lv_iconst (v := 5) hx hb dX5_inkBy_86 (by decide) ?_
            refine lv_icmp_ne (tgt := 106) hx hb dX5_inkBy_87 (by decide) (fun ct => ?_) (fun ct => ?_)
            · have h := h.1 ct
              exact rt_Wv hx hb hr hlk dX5_inkBy_106 (M59, L60) hP hD hS h
            · have h := h.2 ct
              refine lv_aload_n hx hb dX5_inkBy_90 rfl (lv_at hl 2 rfl) ?_
              refine lv_iload_n hx hb dX5_inkBy_91 rfl (lv_at hl 4 rfl) ?_
              refine lv_iload hx hb dX5_inkBy_92 (lv_at hl 0 rfl) ?_
              refine lv_iconst (v := 1) hx hb dX5_inkBy_94 (by decide) ?_
              refine lv_iadd hx hb dX5_inkBy_95 ?_
              refine lv_iload hx hb dX5_inkBy_96 (lv_at hl 6 rfl) ?_
              refine lv_iload hx hb dX5_inkBy_98 (lv_at hl 1 rfl) ?_
              refine lv_iconst (v := 2) hx hb dX5_inkBy_100 (by decide) ?_
              refine lv_idiv hx hb dX5_inkBy_101 (by decide) ?_
              refine lv_iconst (v := 0) hx hb dX5_inkBy_102 (by decide) ?_
              refine wv_allM (rn_V (rest := []) (ci := 3) hx hb hml hown hT hl.1 hC hS hP hD 0 rfl rfl rfl ck_X5_86 (c_X5_layLooks l G cs ts a H.size M59 L60 x2 (v54 + 1) x4 (r4 / 2) 0 _ h) ⟨rfl, rfl, (Nat.le_of_ble_eq_true rfl), (Nat.le_of_ble_eq_true rfl)⟩ ⟨Nat.le_refl _, Nat.le_refl _⟩ rfl rfl (Nat.le_of_ble_eq_true rfl) dX5_inkBy_103) hD hS hA (fun M61 L62 H locs hP hD hS h => ?_)
              exact rt_Wv hx hb hr hlk dX5_inkBy_106 (M61, L62) hP hD hS h
          · have h := h.2 ct
            refine lv_iconst (v := 1) hx hb dX5_inkBy_77 (by decide) ?_
            refine lv_goto (tgt := 82) hx hb dX5_inkBy_78 (by decide) ?_
            refine wv_allM (rn_V (rest := []) (ci := 3) hx hb hml hown hT hl.1 hC hS hP hD 0 rfl rfl rfl ck_X5_86 (c_X5_layLooks l G cs ts a H.size M2 L x2 v54 x4 r4 1 _ h) ⟨rfl, rfl, (Nat.le_of_ble_eq_true rfl), (Nat.le_of_ble_eq_true rfl)⟩ ⟨Nat.le_refl _, Nat.le_refl _⟩ rfl rfl (Nat.le_of_ble_eq_true rfl) dX5_inkBy_82) hD hS hA (fun M63 L64 H locs hP hD hS h => ?_)
            refine lv_iload_n hx hb dX5_inkBy_85 rfl (lv_at hl 3 rfl) ?_
            refine lv_iconst (v := 5) hx hb dX5_inkBy_86 (by decide) ?_
            refine lv_icmp_ne (tgt := 106) hx hb dX5_inkBy_87 (by decide) (fun ct => ?_) (fun ct => ?_)
            · have h := h.1 ct
              exact rt_Wv hx hb hr hlk dX5_inkBy_106 (M63, L64) hP hD hS h
            · have h := h.2 ct
              refine lv_aload_n hx hb dX5_inkBy_90 rfl (lv_at hl 2 rfl) ?_
              refine lv_iload_n hx hb dX5_inkBy_91 rfl (lv_at hl 4 rfl) ?_
              refine lv_iload hx hb dX5_inkBy_92 (lv_at hl 0 rfl) ?_
              refine lv_iconst (v := 1) hx hb dX5_inkBy_94 (by decide) ?_
              refine lv_iadd hx hb dX5_inkBy_95 ?_
              refine lv_iload hx hb dX5_inkBy_96 (lv_at hl 6 rfl) ?_
              refine lv_iload hx hb dX5_inkBy_98 (lv_at hl 1 rfl) ?_
              refine lv_iconst (v := 2) hx hb dX5_inkBy_100 (by decide) ?_
              refine lv_idiv hx hb dX5_inkBy_101 (by decide) ?_
              refine lv_iconst (v := 0) hx hb dX5_inkBy_102 (by decide) ?_
              refine wv_allM (rn_V (rest := []) (ci := 3) hx hb hml hown hT hl.1 hC hS hP hD 0 rfl rfl rfl ck_X5_86 (c_X5_layLooks l G cs ts a H.size M63 L64 x2 (v54 + 1) x4 (r4 / 2) 0 _ h) ⟨rfl, rfl, (Nat.le_of_ble_eq_true rfl), (Nat.le_of_ble_eq_true rfl)⟩ ⟨Nat.le_refl _, Nat.le_refl _⟩ rfl rfl (Nat.le_of_ble_eq_true rfl) dX5_inkBy_103) hD hS hA (fun M65 L66 H locs hP hD hS h => ?_)
              exact rt_Wv hx hb hr hlk dX5_inkBy_106 (M65, L66) hP hD hS h
abbrev rm_X5_darker : Room := { frames := 0, cells := 0, slots := 0, locals := 0 }
set_option maxRecDepth 100000 in
set_option maxHeartbeats 4000000 in
theorem c_X5_darker (l : Launch) (G : va_G) (cs ts : Nat → Nat) (a : Nat → Nat) (sz : Nat)  (M : ZI) (L : ZL)    (post : Int32 → ZI → ZL → Prop) (h : w_X5_darker M L post) : Met l yX5_darker [.code yX5_darker cX5_darker 3 (some .int)] rm_X5_darker (va_Pc [.ref (a 99)] (CP G cs ts (mdW a cs M L) sz)) (va_Qi (fun (r : Int32) (u : ZI × ZL) => post r u.1 u.2) (CB G (va_A (mdW a cs M L) sz) (fun u => (mdW a cs u.1 u.2))) (va_A (mdW a cs M L) sz)) 0 0 (va_A (mdW a cs M L) sz) := by
  refine ax_W (Qc := fun A => va_Qi (fun (r : Int32) (u : ZI × ZL) => post r u.1 u.2) (CB G A (fun u => (mdW a cs u.1 u.2))) A) (by decide) (Nat.le_of_ble_eq_true rfl) sz ?_
  intro p e s m args below meth c A hx hb hr hlk hml hown hT hC hnm H locs hP hD hS ls hl
  have hK := hC.2.1
  have hA := hC.2.2
  have hl : lv_has ls 3 [(0, .ref (a 99))] := hl
  unfold w_X5_darker at h
  have HL4 : ∀ (Mf : ZI) (Lf : ZL)  (K : Int32 → Int32 → Prop), (∀  (y1 : Int32) (y2 : Int32), K y1 y2 → ∀ (H : Heap) (locs : List Loc), va_P G vwCl (mdW a cs Mf Lf) H → va_D A (mdW a cs Mf Lf) → va_S A s.heap H locs → ∀ ls : Array Slot, lv_has ls 3 [(0, .ref (a 99)), (1, .int y1), (2, .int y2)] → W p l e rm_X5_darker s m args below meth c H locs 0 0 (MQ below (va_Qi (fun (r : Int32) (u : ZI × ZL) => post r u.1 u.2) (CB G A (fun u => (mdW a cs u.1 u.2))) A) args s 0 0 A) (F0 m 41 ls [])) → ∀ (n : Nat)  (y1 : Int32) (y2 : Int32), itF (w_X5_darker_L4 Mf Lf post K) (fun _ _ => False) n y1 y2 → ∀ (H : Heap) (locs : List Loc), va_P G vwCl (mdW a cs Mf Lf) H → va_D A (mdW a cs Mf Lf) → va_S A s.heap H locs → ∀ ls : Array Slot, lv_has ls 3 [(0, .ref (a 99)), (1, .int y1), (2, .int y2)] → W p l e rm_X5_darker s m args below meth c H locs 0 0 (MQ below (va_Qi (fun (r : Int32) (u : ZI × ZL) => post r u.1 u.2) (CB G A (fun u => (mdW a cs u.1 u.2))) A) args s 0 0 A) (F0 m 4 ls []) := by
    intro Mf Lf K hKK n
    induction n with
    | zero =>
      intro y1 y2 h
      exact absurd h id
    | succ n ih =>
      intro y1 y2 h H locs hP hD hS ls hl
      have h : w_X5_darker_L4 Mf Lf post K (itF (w_X5_darker_L4 Mf Lf post K) (fun _ _ => False) n) y1 y2 := h
      generalize itF (w_X5_darker_L4 Mf Lf post K) (fun _ _ => False) n = rec at h ih
      unfold w_X5_darker_L4 at h
      refine lv_iload_n hx hb dX5_darker_4 rfl (lv_at hl 2 rfl) ?_
      refine lv_bipush (v := 64) hx hb dX5_darker_5 (by decide) ?_
      refine lv_icmp_ge (tgt := 41) hx hb dX5_darker_7 (by decide) (fun ct => ?_) (fun ct => ?_)
      · have h := h.1 ct
        exact hKK _ _ h _ _ hP hD hS ls (lv_sub hl [0, 1, 2] rfl)
      · have h := h.2 ct
        refine lv_iload_n hx hb dX5_darker_10 rfl (lv_at hl 1 rfl) ?_
        refine lv_aload_n hx hb dX5_darker_11 rfl (lv_at hl 0 rfl) ?_
        refine gf_X5_20 hx hb hT hown hK hP 0 rfl rfl dX5_darker_12 ?_
        refine lv_iload_n hx hb dX5_darker_15 rfl (lv_at hl 2 rfl) ?_
        obtain ⟨hi, h⟩ := h
        refine va_iald hx hb hK hP 3 0 rfl rfl hi dX5_darker_16 ?_
        refine lv_aload_n hx hb dX5_darker_17 rfl (lv_at hl 0 rfl) ?_
        refine gf_X5_7 hx hb hT hown hK hP 0 rfl rfl dX5_darker_18 ?_
        refine lv_iconst (v := 0) hx hb dX5_darker_21 (by decide) ?_
        refine lv_iload_n hx hb dX5_darker_22 rfl (lv_at hl 2 rfl) ?_
        refine lv_iadd hx hb dX5_darker_23 ?_
        obtain ⟨hi, h⟩ := h
        refine va_iald hx hb hK hP 1 0 rfl rfl hi dX5_darker_24 ?_
        refine lv_icmp_le (tgt := 32) hx hb dX5_darker_25 (by decide) (fun ct => ?_) (fun ct => ?_)
        · have h := h.1 ct
          refine lv_iconst (v := 0) hx hb dX5_darker_32 (by decide) ?_
          refine lv_iadd hx hb dX5_darker_33 ?_
          refine lv_topi (fun v1 ev1 => ?_)
          have h := h v1 ev1
          refine lv_istore_n (lv' := [(1, .int v1), (0, .ref (a 99)), (2, .int y2)]) hx hb dX5_darker_34 rfl hl (by decide) rfl (fun ls hl => ?_)
          refine lv_iinc (v := y2 + 1) (lv' := [(2, .int (y2 + 1)), (1, .int v1), (0, .ref (a 99))]) hx hb dX5_darker_35 hl (k := 2) rfl rfl (by decide) rfl (fun ls hl => ?_)
          refine lv_goto (tgt := 4) hx hb dX5_darker_38 (by decide) ?_
          exact ih _ _ h _ _ hP hD hS ls (lv_sub hl [2, 1, 0] rfl)
        · have h := h.2 ct
          refine lv_iconst (v := 1) hx hb dX5_darker_28 (by decide) ?_
          refine lv_goto (tgt := 33) hx hb dX5_darker_29 (by decide) ?_
          refine lv_iadd hx hb dX5_darker_33 ?_
          refine lv_topi (fun v2 ev2 => ?_)
          have h := h v2 ev2
          refine lv_istore_n (lv' := [(1, .int v2), (0, .ref (a 99)), (2, .int y2)]) hx hb dX5_darker_34 rfl hl (by decide) rfl (fun ls hl => ?_)
          refine lv_iinc (v := y2 + 1) (lv' := [(2, .int (y2 + 1)), (1, .int v2), (0, .ref (a 99))]) hx hb dX5_darker_35 hl (k := 2) rfl rfl (by decide) rfl (fun ls hl => ?_)
          refine lv_goto (tgt := 4) hx hb dX5_darker_38 (by decide) ?_
          exact ih _ _ h _ _ hP hD hS ls (lv_sub hl [2, 1, 0] rfl)
  refine lv_iconst (v := 0) hx hb dX5_darker_0 (by decide) ?_
  refine lv_istore_n (lv' := [(1, .int 0), (0, .ref (a 99))]) hx hb dX5_darker_1 rfl hl (by decide) rfl (fun ls hl => ?_)
  refine lv_iconst (v := 0) hx hb dX5_darker_2 (by decide) ?_
  refine lv_istore_n (lv' := [(2, .int 0), (1, .int 0), (0, .ref (a 99))]) hx hb dX5_darker_3 rfl hl (by decide) rfl (fun ls hl => ?_)
  obtain ⟨n5, h⟩ := h
  refine HL4 _ _ _ (fun v3 v4 h H locs hP hD hS ls hl => ?_) n5 _ _ h _ _ hP hD hS ls (lv_sub hl [2, 1, 0] rfl)
  refine lv_iload_n hx hb dX5_darker_41 rfl (lv_at hl 1 rfl) ?_
  exact rt_Wi hx hb hr hlk dX5_darker_42 (M, L) hP hD hS h
abbrev rm_X5_printOne : Room := { frames := 4, cells := 0, slots := 0, locals := 102 }
set_option maxRecDepth 100000 in
set_option maxHeartbeats 4000000 in
theorem c_X5_printOne (l : Launch) (G : va_G) (cs ts : Nat → Nat) (a : Nat → Nat) (sz : Nat)  (M : ZI) (L : ZL)   (x1 : Int32) (x2 : Int32) (x3 : Int32) (x4 : Int32) (x5 : Int32) (post : Int32 → ZI → ZL → Prop) (h : w_X5_printOne M L x1 x2 x3 x4 x5 post) : Met l yX5_printOne [.code yX5_printOne cX5_printOne 8 (some .int)] rm_X5_printOne (va_Pc [.ref (a 99), .int x1, .int x2, .int x3, .int x4, .int x5] (CP G cs ts (mdW a cs M L) sz)) (va_Qi (fun (r : Int32) (u : ZI × ZL) => post r u.1 u.2) (CB G (va_A (mdW a cs M L) sz) (fun u => (mdW a cs u.1 u.2))) (va_A (mdW a cs M L) sz)) 0 0 (va_A (mdW a cs M L) sz) := by
  refine ax_W (Qc := fun A => va_Qi (fun (r : Int32) (u : ZI × ZL) => post r u.1 u.2) (CB G A (fun u => (mdW a cs u.1 u.2))) A) (by decide) (Nat.le_of_ble_eq_true rfl) sz ?_
  intro p e s m args below meth c A hx hb hr hlk hml hown hT hC hnm H locs hP hD hS ls hl
  have hK := hC.2.1
  have hA := hC.2.2
  have hl : lv_has ls 8 [(0, .ref (a 99)), (1, .int x1), (2, .int x2), (3, .int x3), (4, .int x4), (5, .int x5)] := hl
  unfold w_X5_printOne at h
  have HL31 : ∀ (Lf : ZL) (z1 : Int32) (z2 : Int32) (z3 : Int32) (z4 : Int32) (z5 : Int32) (z6 : Int32) (K : ZI → Int32 → Prop), (∀ (Mv : ZI) (y7 : Int32), K Mv y7 → ∀ (H : Heap) (locs : List Loc), va_P G vwCl (mdW a cs Mv Lf) H → va_D A (mdW a cs Mv Lf) → va_S A s.heap H locs → ∀ ls : Array Slot, lv_has ls 8 [(0, .ref (a 99)), (1, .int z1), (2, .int z2), (3, .int z3), (4, .int z4), (5, .int z5), (6, .int z6), (7, .int y7)] → W p l e rm_X5_printOne s m args below meth c H locs 0 0 (MQ below (va_Qi (fun (r : Int32) (u : ZI × ZL) => post r u.1 u.2) (CB G A (fun u => (mdW a cs u.1 u.2))) A) args s 0 0 A) (F0 m 91 ls [])) → ∀ (n : Nat) (Mv : ZI) (y7 : Int32), itF (w_X5_printOne_L31 Lf z1 z2 z3 z4 z5 z6 post K) (fun _ _ => False) n Mv y7 → ∀ (H : Heap) (locs : List Loc), va_P G vwCl (mdW a cs Mv Lf) H → va_D A (mdW a cs Mv Lf) → va_S A s.heap H locs → ∀ ls : Array Slot, lv_has ls 8 [(0, .ref (a 99)), (1, .int z1), (2, .int z2), (3, .int z3), (4, .int z4), (5, .int z5), (6, .int z6), (7, .int y7)] → W p l e rm_X5_printOne s m args below meth c H locs 0 0 (MQ below (va_Qi (fun (r : Int32) (u : ZI × ZL) => post r u.1 u.2) (CB G A (fun u => (mdW a cs u.1 u.2))) A) args s 0 0 A) (F0 m 31 ls []) := by
    intro Lf z1 z2 z3 z4 z5 z6 K hKK n
    induction n with
    | zero =>
      intro Mv y7 h
      exact absurd h id
    | succ n ih =>
      intro Mv y7 h H locs hP hD hS ls hl
      have h : w_X5_printOne_L31 Lf z1 z2 z3 z4 z5 z6 post K (itF (w_X5_printOne_L31 Lf z1 z2 z3 z4 z5 z6 post K) (fun _ _ => False) n) Mv y7 := h
      generalize itF (w_X5_printOne_L31 Lf z1 z2 z3 z4 z5 z6 post K) (fun _ _ => False) n = rec at h ih
      unfold w_X5_printOne_L31 at h
      refine lv_iload hx hb dX5_printOne_31 (lv_at hl 7 rfl) ?_
      refine lv_bipush (v := 64) hx hb dX5_printOne_33 (by decide) ?_
      refine lv_icmp_ge (tgt := 91) hx hb dX5_printOne_35 (by decide) (fun ct => ?_) (fun ct => ?_)
      · have h := h.1 ct
        exact hKK _ _ h _ _ hP hD hS ls (lv_sub hl [0, 1, 2, 3, 4, 5, 6, 7] rfl)
      · have h := h.2 ct
        refine lv_aload_n hx hb dX5_printOne_38 rfl (lv_at hl 0 rfl) ?_
        refine gf_X5_7 hx hb hT hown hK hP 0 rfl rfl dX5_printOne_39 ?_
        refine lv_iconst (v := 0) hx hb dX5_printOne_42 (by decide) ?_
        refine lv_iload hx hb dX5_printOne_43 (lv_at hl 7 rfl) ?_
        refine lv_iadd hx hb dX5_printOne_45 ?_
        refine lv_aload_n hx hb dX5_printOne_46 rfl (lv_at hl 0 rfl) ?_
        refine gf_X5_20 hx hb hT hown hK hP 0 rfl rfl dX5_printOne_47 ?_
        refine lv_iload hx hb dX5_printOne_50 (lv_at hl 7 rfl) ?_
        obtain ⟨hi, h⟩ := h
        refine va_iald hx hb hK hP 3 0 rfl rfl hi dX5_printOne_52 ?_
        refine lv_aload_n hx hb dX5_printOne_53 rfl (lv_at hl 0 rfl) ?_
        refine gf_X5_7 hx hb hT hown hK hP 0 rfl rfl dX5_printOne_54 ?_
        refine lv_iconst (v := 0) hx hb dX5_printOne_57 (by decide) ?_
        refine lv_iload hx hb dX5_printOne_58 (lv_at hl 7 rfl) ?_
        refine lv_iadd hx hb dX5_printOne_60 ?_
        obtain ⟨hi, h⟩ := h
        refine va_iald hx hb hK hP 1 0 rfl rfl hi dX5_printOne_61 ?_
        refine lv_icmp_le (tgt := 75) hx hb dX5_printOne_62 (by decide) (fun ct => ?_) (fun ct => ?_)
        · have h := h.1 ct
          refine lv_aload_n hx hb dX5_printOne_75 rfl (lv_at hl 0 rfl) ?_
          refine gf_X5_7 hx hb hT hown hK hP 0 rfl rfl dX5_printOne_76 ?_
          refine lv_iconst (v := 0) hx hb dX5_printOne_79 (by decide) ?_
          refine lv_iload hx hb dX5_printOne_80 (lv_at hl 7 rfl) ?_
          refine lv_iadd hx hb dX5_printOne_82 ?_
          obtain ⟨hi, h⟩ := h
          refine va_iald hx hb hK hP 1 0 rfl rfl hi dX5_printOne_83 ?_
          obtain ⟨hi, h⟩ := h
          refine va_iast hx hb hK hP hD hS 1 0 rfl rfl hi dX5_printOne_84 (fun H locs hP hD hS => ?_)
          obtain ⟨M9, eM9⟩ : ∃ z : ZI, z = mu Mv 0 (0 + y7).toNatClampNeg (Mv 0 (0 + y7).toNatClampNeg) := ⟨_, rfl⟩
          have h := h M9 eM9
          have hP : va_P G vwCl (mdW a cs M9 Lf) H := by rw [eM9]; exact hP
          have hD : va_D A (mdW a cs M9 Lf) := by rw [eM9]; exact hD
          refine lv_iinc (v := y7 + 1) (lv' := [(7, .int (y7 + 1)), (0, .ref (a 99)), (1, .int z1), (2, .int z2), (3, .int z3), (4, .int z4), (5, .int z5), (6, .int z6)]) hx hb dX5_printOne_85 hl (k := 7) rfl rfl (by decide) rfl (fun ls hl => ?_)
          refine lv_goto (tgt := 31) hx hb dX5_printOne_88 (by decide) ?_
          exact ih _ _ h _ _ hP hD hS ls (lv_sub hl [1, 2, 3, 4, 5, 6, 7, 0] rfl)
        · have h := h.2 ct
          refine lv_aload_n hx hb dX5_printOne_65 rfl (lv_at hl 0 rfl) ?_
          refine gf_X5_20 hx hb hT hown hK hP 0 rfl rfl dX5_printOne_66 ?_
          refine lv_iload hx hb dX5_printOne_69 (lv_at hl 7 rfl) ?_
          obtain ⟨hi, h⟩ := h
          refine va_iald hx hb hK hP 3 0 rfl rfl hi dX5_printOne_71 ?_
          refine lv_goto (tgt := 84) hx hb dX5_printOne_72 (by decide) ?_
          obtain ⟨hi, h⟩ := h
          refine va_iast hx hb hK hP hD hS 1 0 rfl rfl hi dX5_printOne_84 (fun H locs hP hD hS => ?_)
          obtain ⟨M10, eM10⟩ : ∃ z : ZI, z = mu Mv 0 (0 + y7).toNatClampNeg (Mv 4 y7.toNatClampNeg) := ⟨_, rfl⟩
          have h := h M10 eM10
          have hP : va_P G vwCl (mdW a cs M10 Lf) H := by rw [eM10]; exact hP
          have hD : va_D A (mdW a cs M10 Lf) := by rw [eM10]; exact hD
          refine lv_iinc (v := y7 + 1) (lv' := [(7, .int (y7 + 1)), (0, .ref (a 99)), (1, .int z1), (2, .int z2), (3, .int z3), (4, .int z4), (5, .int z5), (6, .int z6)]) hx hb dX5_printOne_85 hl (k := 7) rfl rfl (by decide) rfl (fun ls hl => ?_)
          refine lv_goto (tgt := 31) hx hb dX5_printOne_88 (by decide) ?_
          exact ih _ _ h _ _ hP hD hS ls (lv_sub hl [1, 2, 3, 4, 5, 6, 7, 0] rfl)
  refine lv_aload_n hx hb dX5_printOne_0 rfl (lv_at hl 0 rfl) ?_
  refine lv_iload_n hx hb dX5_printOne_1 rfl (lv_at hl 1 rfl) ?_
  refine lv_aload_n hx hb dX5_printOne_2 rfl (lv_at hl 0 rfl) ?_
  refine lv_iload_n hx hb dX5_printOne_3 rfl (lv_at hl 2 rfl) ?_
  refine lv_iload hx hb dX5_printOne_4 (lv_at hl 5 rfl) ?_
  refine wi_allM (rn_V (rest := [.int x1, .ref (a 99)]) (ci := 3) hx hb hml hown hT hl.1 hC hS hP hD 0 rfl rfl rfl ck_X5_90 (c_X5_looksOf l G cs ts a H.size M L x2 x5 _ h) ⟨rfl, rfl, (Nat.le_of_ble_eq_true rfl), (Nat.le_of_ble_eq_true rfl)⟩ ⟨Nat.le_refl _, Nat.le_refl _⟩ rfl rfl (Nat.le_of_ble_eq_true rfl) dX5_printOne_6) hD hS hA (fun r1 M2 L3 H locs hP hD hS h => ?_)
  refine lv_iload_n hx hb dX5_printOne_9 rfl (lv_at hl 3 rfl) ?_
  refine lv_iload hx hb dX5_printOne_10 (lv_at hl 4 rfl) ?_
  refine lv_aload_n hx hb dX5_printOne_12 rfl (lv_at hl 0 rfl) ?_
  refine gf_X5_7 hx hb hT hown hK hP 0 rfl rfl dX5_printOne_13 ?_
  refine lv_bipush (v := 64) hx hb dX5_printOne_16 (by decide) ?_
  have hi : vp_in 64 99 := by unfold vp_in; decide
  refine va_iald hx hb hK hP 1 0 rfl rfl hi dX5_printOne_18 ?_
  refine wv_allM (rn_V (rest := []) (ci := 3) hx hb hml hown hT hl.1 hC hS hP hD 0 rfl rfl rfl ck_X5_93 (c_X5_inkBy l G cs ts a H.size M2 L3 x1 r1 x3 x4 (M2 0 64) _ h) ⟨rfl, rfl, (Nat.le_of_ble_eq_true rfl), (Nat.le_of_ble_eq_true rfl)⟩ ⟨Nat.le_refl _, Nat.le_refl _⟩ rfl rfl (Nat.le_of_ble_eq_true rfl) dX5_printOne_19) hD hS hA (fun M4 L5 H locs hP hD hS h => ?_)
  refine lv_aload_n hx hb dX5_printOne_22 rfl (lv_at hl 0 rfl) ?_
  refine wi_allM (rn_V (rest := []) (ci := 3) hx hb hml hown hT hl.1 hC hS hP hD 0 rfl rfl rfl ck_X5_97 (c_X5_darker l G cs ts a H.size M4 L5  _ h) ⟨rfl, rfl, (Nat.le_of_ble_eq_true rfl), (Nat.le_of_ble_eq_true rfl)⟩ ⟨Nat.le_refl _, Nat.le_refl _⟩ rfl rfl (Nat.le_of_ble_eq_true rfl) dX5_printOne_23) hD hS hA (fun r6 M7 L8 H locs hP hD hS h => ?_)
  refine lv_istore (lv' := [(6, .int r6), (0, .ref (a 99)), (1, .int x1), (2, .int x2), (3, .int x3), (4, .int x4), (5, .int x5)]) hx hb dX5_printOne_26 hl (by decide) rfl (fun ls hl => ?_)
  refine lv_iconst (v := 0) hx hb dX5_printOne_28 (by decide) ?_
  refine lv_istore (lv' := [(7, .int 0), (6, .int r6), (0, .ref (a 99)), (1, .int x1), (2, .int x2), (3, .int x3), (4, .int x4), (5, .int x5)]) hx hb dX5_printOne_29 hl (by decide) rfl (fun ls hl => ?_)
  obtain ⟨n15, h⟩ := h
  refine HL31 _ _ _ _ _ _ _ _ (fun M11 v12 h H locs hP hD hS ls hl => ?_) n15 _ _ h _ _ hP hD hS ls (lv_sub hl [2, 3, 4, 5, 6, 7, 1, 0] rfl)
  refine lv_aload_n hx hb dX5_printOne_91 rfl (lv_at hl 0 rfl) ?_
  refine gf_X5_7 hx hb hT hown hK hP 0 rfl rfl dX5_printOne_92 ?_
  refine lv_bipush (v := 64) hx hb dX5_printOne_95 (by decide) ?_
  refine lv_dup2_11 hx hb dX5_printOne_97 rfl rfl ?_
  have hi : vp_in 64 99 := by unfold vp_in; decide
  refine va_iald hx hb hK hP 1 0 rfl rfl hi dX5_printOne_98 ?_
  refine lv_iload_n hx hb dX5_printOne_99 rfl (lv_at hl 1 rfl) ?_
  refine lv_aload_n hx hb dX5_printOne_100 rfl (lv_at hl 0 rfl) ?_
  refine gf_X5_7 hx hb hT hown hK hP 0 rfl rfl dX5_printOne_101 ?_
  refine lv_bipush (v := 64) hx hb dX5_printOne_104 (by decide) ?_
  have hi : vp_in 64 99 := by unfold vp_in; decide
  refine va_iald hx hb hK hP 1 0 rfl rfl hi dX5_printOne_106 ?_
  refine cl_Si (rn_S (rest := [.int (M11 0 64), .int 64, .ref (a 0)]) hx hb hml hown hT hl.1 ck_X5_101 (c_X5_takesBy l x1 (M11 0 64) _ h) ⟨rfl, rfl, (Nat.le_of_ble_eq_true rfl), (Nat.le_of_ble_eq_true rfl)⟩ ⟨Nat.zero_le _, Nat.zero_le _⟩ rfl rfl (Nat.le_of_ble_eq_true rfl) dX5_printOne_107) (fun r13 h => ?_)
  refine lv_isub hx hb dX5_printOne_110 ?_
  have hi : vp_in 64 99 := by unfold vp_in; decide
  refine va_iast hx hb hK hP hD hS 1 0 rfl rfl hi dX5_printOne_111 (fun H locs hP hD hS => ?_)
  obtain ⟨M14, eM14⟩ : ∃ z : ZI, z = mu M11 0 64 ((M11 0 64) - r13) := ⟨_, rfl⟩
  have h := h M14 eM14
  have hP : va_P G vwCl (mdW a cs M14 L8) H := by rw [eM14]; exact hP
  have hD : va_D A (mdW a cs M14 L8) := by rw [eM14]; exact hD
  refine lv_iload hx hb dX5_printOne_112 (lv_at hl 6 rfl) ?_
  exact rt_Wi hx hb hr hlk dX5_printOne_114 (M14, L8) hP hD hS h
abbrev rm_X5_darkMany : Room := { frames := 0, cells := 0, slots := 0, locals := 0 }
set_option maxRecDepth 100000 in
set_option maxHeartbeats 4000000 in
theorem c_X5_darkMany (l : Launch) (G : va_G) (cs ts : Nat → Nat) (a : Nat → Nat) (sz : Nat)  (M : ZI) (L : ZL)    (post : Int32 → ZI → ZL → Prop) (h : w_X5_darkMany M L post) : Met l yX5_darkMany [.code yX5_darkMany cX5_darkMany 3 (some .int)] rm_X5_darkMany (va_Pc [.ref (a 99)] (CP G cs ts (mdW a cs M L) sz)) (va_Qi (fun (r : Int32) (u : ZI × ZL) => post r u.1 u.2) (CB G (va_A (mdW a cs M L) sz) (fun u => (mdW a cs u.1 u.2))) (va_A (mdW a cs M L) sz)) 0 0 (va_A (mdW a cs M L) sz) := by
  refine ax_W (Qc := fun A => va_Qi (fun (r : Int32) (u : ZI × ZL) => post r u.1 u.2) (CB G A (fun u => (mdW a cs u.1 u.2))) A) (by decide) (Nat.le_of_ble_eq_true rfl) sz ?_
  intro p e s m args below meth c A hx hb hr hlk hml hown hT hC hnm H locs hP hD hS ls hl
  have hK := hC.2.1
  have hA := hC.2.2
  have hl : lv_has ls 3 [(0, .ref (a 99))] := hl
  unfold w_X5_darkMany at h
  have HL4 : ∀ (Mf : ZI) (Lf : ZL)  (K : Int32 → Int32 → Prop), (∀  (y1 : Int32) (y2 : Int32), K y1 y2 → ∀ (H : Heap) (locs : List Loc), va_P G vwCl (mdW a cs Mf Lf) H → va_D A (mdW a cs Mf Lf) → va_S A s.heap H locs → ∀ ls : Array Slot, lv_has ls 3 [(0, .ref (a 99)), (1, .int y1), (2, .int y2)] → W p l e rm_X5_darkMany s m args below meth c H locs 0 0 (MQ below (va_Qi (fun (r : Int32) (u : ZI × ZL) => post r u.1 u.2) (CB G A (fun u => (mdW a cs u.1 u.2))) A) args s 0 0 A) (F0 m 35 ls [])) → ∀ (n : Nat)  (y1 : Int32) (y2 : Int32), itF (w_X5_darkMany_L4 Mf Lf post K) (fun _ _ => False) n y1 y2 → ∀ (H : Heap) (locs : List Loc), va_P G vwCl (mdW a cs Mf Lf) H → va_D A (mdW a cs Mf Lf) → va_S A s.heap H locs → ∀ ls : Array Slot, lv_has ls 3 [(0, .ref (a 99)), (1, .int y1), (2, .int y2)] → W p l e rm_X5_darkMany s m args below meth c H locs 0 0 (MQ below (va_Qi (fun (r : Int32) (u : ZI × ZL) => post r u.1 u.2) (CB G A (fun u => (mdW a cs u.1 u.2))) A) args s 0 0 A) (F0 m 4 ls []) := by
    intro Mf Lf K hKK n
    induction n with
    | zero =>
      intro y1 y2 h
      exact absurd h id
    | succ n ih =>
      intro y1 y2 h H locs hP hD hS ls hl
      have h : w_X5_darkMany_L4 Mf Lf post K (itF (w_X5_darkMany_L4 Mf Lf post K) (fun _ _ => False) n) y1 y2 := h
      generalize itF (w_X5_darkMany_L4 Mf Lf post K) (fun _ _ => False) n = rec at h ih
      unfold w_X5_darkMany_L4 at h
      refine lv_iload_n hx hb dX5_darkMany_4 rfl (lv_at hl 2 rfl) ?_
      refine lv_bipush (v := 64) hx hb dX5_darkMany_5 (by decide) ?_
      refine lv_icmp_ge (tgt := 35) hx hb dX5_darkMany_7 (by decide) (fun ct => ?_) (fun ct => ?_)
      · have h := h.1 ct
        exact hKK _ _ h _ _ hP hD hS ls (lv_sub hl [0, 1, 2] rfl)
      · have h := h.2 ct
        refine lv_iload_n hx hb dX5_darkMany_10 rfl (lv_at hl 1 rfl) ?_
        refine lv_aload_n hx hb dX5_darkMany_11 rfl (lv_at hl 0 rfl) ?_
        refine gf_X5_7 hx hb hT hown hK hP 0 rfl rfl dX5_darkMany_12 ?_
        refine lv_iconst (v := 0) hx hb dX5_darkMany_15 (by decide) ?_
        refine lv_iload_n hx hb dX5_darkMany_16 rfl (lv_at hl 2 rfl) ?_
        refine lv_iadd hx hb dX5_darkMany_17 ?_
        obtain ⟨hi, h⟩ := h
        refine va_iald hx hb hK hP 1 0 rfl rfl hi dX5_darkMany_18 ?_
        refine lv_if_le (tgt := 26) hx hb dX5_darkMany_19 (by decide) (fun ct => ?_) (fun ct => ?_)
        · have h := h.1 ct
          refine lv_iconst (v := 0) hx hb dX5_darkMany_26 (by decide) ?_
          refine lv_iadd hx hb dX5_darkMany_27 ?_
          refine lv_topi (fun v1 ev1 => ?_)
          have h := h v1 ev1
          refine lv_istore_n (lv' := [(1, .int v1), (0, .ref (a 99)), (2, .int y2)]) hx hb dX5_darkMany_28 rfl hl (by decide) rfl (fun ls hl => ?_)
          refine lv_iinc (v := y2 + 1) (lv' := [(2, .int (y2 + 1)), (1, .int v1), (0, .ref (a 99))]) hx hb dX5_darkMany_29 hl (k := 2) rfl rfl (by decide) rfl (fun ls hl => ?_)
          refine lv_goto (tgt := 4) hx hb dX5_darkMany_32 (by decide) ?_
          exact ih _ _ h _ _ hP hD hS ls (lv_sub hl [2, 1, 0] rfl)
        · have h := h.2 ct
          refine lv_iconst (v := 1) hx hb dX5_darkMany_22 (by decide) ?_
          refine lv_goto (tgt := 27) hx hb dX5_darkMany_23 (by decide) ?_
          refine lv_iadd hx hb dX5_darkMany_27 ?_
          refine lv_topi (fun v2 ev2 => ?_)
          have h := h v2 ev2
          refine lv_istore_n (lv' := [(1, .int v2), (0, .ref (a 99)), (2, .int y2)]) hx hb dX5_darkMany_28 rfl hl (by decide) rfl (fun ls hl => ?_)
          refine lv_iinc (v := y2 + 1) (lv' := [(2, .int (y2 + 1)), (1, .int v2), (0, .ref (a 99))]) hx hb dX5_darkMany_29 hl (k := 2) rfl rfl (by decide) rfl (fun ls hl => ?_)
          refine lv_goto (tgt := 4) hx hb dX5_darkMany_32 (by decide) ?_
          exact ih _ _ h _ _ hP hD hS ls (lv_sub hl [2, 1, 0] rfl)
  refine lv_iconst (v := 0) hx hb dX5_darkMany_0 (by decide) ?_
  refine lv_istore_n (lv' := [(1, .int 0), (0, .ref (a 99))]) hx hb dX5_darkMany_1 rfl hl (by decide) rfl (fun ls hl => ?_)
  refine lv_iconst (v := 0) hx hb dX5_darkMany_2 (by decide) ?_
  refine lv_istore_n (lv' := [(2, .int 0), (1, .int 0), (0, .ref (a 99))]) hx hb dX5_darkMany_3 rfl hl (by decide) rfl (fun ls hl => ?_)
  obtain ⟨n5, h⟩ := h
  refine HL4 _ _ _ (fun v3 v4 h H locs hP hD hS ls hl => ?_) n5 _ _ h _ _ hP hD hS ls (lv_sub hl [2, 1, 0] rfl)
  refine lv_iload_n hx hb dX5_darkMany_35 rfl (lv_at hl 1 rfl) ?_
  exact rt_Wi hx hb hr hlk dX5_darkMany_36 (M, L) hP hD hS h
abbrev rm_X5_anew : Room := { frames := 0, cells := 0, slots := 0, locals := 0 }
set_option maxRecDepth 100000 in
set_option maxHeartbeats 4000000 in
theorem c_X5_anew (l : Launch) (G : va_G) (cs ts : Nat → Nat) (a : Nat → Nat) (sz : Nat)  (M : ZI) (L : ZL)   (x1 : Int32) (post : ZI → ZL → Prop) (h : w_X5_anew M L x1 post) : Met l yX5_anew [.code yX5_anew cX5_anew 3 none] rm_X5_anew (va_Pc [.ref (a 99), .int x1] (CP G cs ts (mdW a cs M L) sz)) (va_Qv (fun (u : ZI × ZL) => post u.1 u.2) (CB G (va_A (mdW a cs M L) sz) (fun u => (mdW a cs u.1 u.2))) (va_A (mdW a cs M L) sz)) 0 0 (va_A (mdW a cs M L) sz) := by
  refine ax_W (Qc := fun A => va_Qv (fun (u : ZI × ZL) => post u.1 u.2) (CB G A (fun u => (mdW a cs u.1 u.2))) A) (by decide) (Nat.le_of_ble_eq_true rfl) sz ?_
  intro p e s m args below meth c A hx hb hr hlk hml hown hT hC hnm H locs hP hD hS ls hl
  have hK := hC.2.1
  have hA := hC.2.2
  have hl : lv_has ls 3 [(0, .ref (a 99)), (1, .int x1)] := hl
  unfold w_X5_anew at h
  have HL2 : ∀ (Lf : ZL) (z1 : Int32) (K : ZI → Int32 → Prop), (∀ (Mv : ZI) (y2 : Int32), K Mv y2 → ∀ (H : Heap) (locs : List Loc), va_P G vwCl (mdW a cs Mv Lf) H → va_D A (mdW a cs Mv Lf) → va_S A s.heap H locs → ∀ ls : Array Slot, lv_has ls 3 [(0, .ref (a 99)), (1, .int z1), (2, .int y2)] → W p l e rm_X5_anew s m args below meth c H locs 0 0 (MQ below (va_Qv (fun (u : ZI × ZL) => post u.1 u.2) (CB G A (fun u => (mdW a cs u.1 u.2))) A) args s 0 0 A) (F0 m 21 ls [])) → ∀ (n : Nat) (Mv : ZI) (y2 : Int32), itF (w_X5_anew_L2 Lf z1 post K) (fun _ _ => False) n Mv y2 → ∀ (H : Heap) (locs : List Loc), va_P G vwCl (mdW a cs Mv Lf) H → va_D A (mdW a cs Mv Lf) → va_S A s.heap H locs → ∀ ls : Array Slot, lv_has ls 3 [(0, .ref (a 99)), (1, .int z1), (2, .int y2)] → W p l e rm_X5_anew s m args below meth c H locs 0 0 (MQ below (va_Qv (fun (u : ZI × ZL) => post u.1 u.2) (CB G A (fun u => (mdW a cs u.1 u.2))) A) args s 0 0 A) (F0 m 2 ls []) := by
    intro Lf z1 K hKK n
    induction n with
    | zero =>
      intro Mv y2 h
      exact absurd h id
    | succ n ih =>
      intro Mv y2 h H locs hP hD hS ls hl
      have h : w_X5_anew_L2 Lf z1 post K (itF (w_X5_anew_L2 Lf z1 post K) (fun _ _ => False) n) Mv y2 := h
      generalize itF (w_X5_anew_L2 Lf z1 post K) (fun _ _ => False) n = rec at h ih
      unfold w_X5_anew_L2 at h
      refine lv_iload_n hx hb dX5_anew_2 rfl (lv_at hl 2 rfl) ?_
      refine lv_bipush (v := 99) hx hb dX5_anew_3 (by decide) ?_
      refine lv_icmp_ge (tgt := 21) hx hb dX5_anew_5 (by decide) (fun ct => ?_) (fun ct => ?_)
      · have h := h.1 ct
        exact hKK _ _ h _ _ hP hD hS ls (lv_sub hl [0, 1, 2] rfl)
      · have h := h.2 ct
        refine lv_aload_n hx hb dX5_anew_8 rfl (lv_at hl 0 rfl) ?_
        refine gf_X5_7 hx hb hT hown hK hP 0 rfl rfl dX5_anew_9 ?_
        refine lv_iload_n hx hb dX5_anew_12 rfl (lv_at hl 2 rfl) ?_
        refine lv_iconst (v := 0) hx hb dX5_anew_13 (by decide) ?_
        obtain ⟨hi, h⟩ := h
        refine va_iast hx hb hK hP hD hS 1 0 rfl rfl hi dX5_anew_14 (fun H locs hP hD hS => ?_)
        obtain ⟨M1, eM1⟩ : ∃ z : ZI, z = mu Mv 0 y2.toNatClampNeg 0 := ⟨_, rfl⟩
        have h := h M1 eM1
        have hP : va_P G vwCl (mdW a cs M1 Lf) H := by rw [eM1]; exact hP
        have hD : va_D A (mdW a cs M1 Lf) := by rw [eM1]; exact hD
        refine lv_iinc (v := y2 + 1) (lv' := [(2, .int (y2 + 1)), (0, .ref (a 99)), (1, .int z1)]) hx hb dX5_anew_15 hl (k := 2) rfl rfl (by decide) rfl (fun ls hl => ?_)
        refine lv_goto (tgt := 2) hx hb dX5_anew_18 (by decide) ?_
        exact ih _ _ h _ _ hP hD hS ls (lv_sub hl [1, 2, 0] rfl)
  refine lv_iconst (v := 0) hx hb dX5_anew_0 (by decide) ?_
  refine lv_istore_n (lv' := [(2, .int 0), (0, .ref (a 99)), (1, .int x1)]) hx hb dX5_anew_1 rfl hl (by decide) rfl (fun ls hl => ?_)
  obtain ⟨n6, h⟩ := h
  refine HL2 _ _ _ (fun M2 v3 h H locs hP hD hS ls hl => ?_) n6 _ _ h _ _ hP hD hS ls (lv_sub hl [1, 2, 0] rfl)
  refine lv_aload_n hx hb dX5_anew_21 rfl (lv_at hl 0 rfl) ?_
  refine gf_X5_7 hx hb hT hown hK hP 0 rfl rfl dX5_anew_22 ?_
  refine lv_bipush (v := 64) hx hb dX5_anew_25 (by decide) ?_
  refine lv_iload_n hx hb dX5_anew_27 rfl (lv_at hl 1 rfl) ?_
  have hi : vp_in 64 99 := by unfold vp_in; decide
  refine va_iast hx hb hK hP hD hS 1 0 rfl rfl hi dX5_anew_28 (fun H locs hP hD hS => ?_)
  obtain ⟨M4, eM4⟩ : ∃ z : ZI, z = mu M2 0 64 x1 := ⟨_, rfl⟩
  have h := h M4 eM4
  have hP : va_P G vwCl (mdW a cs M4 L) H := by rw [eM4]; exact hP
  have hD : va_D A (mdW a cs M4 L) := by rw [eM4]; exact hD
  refine lv_aload_n hx hb dX5_anew_29 rfl (lv_at hl 0 rfl) ?_
  refine lv_iconst (v := 0) hx hb dX5_anew_30 (by decide) ?_
  refine pf_X5_104 hx hb hT hown hK hP hD hS 0 rfl (Nat.le_of_ble_eq_true rfl) dX5_anew_31 (fun H locs hP hD hS => ?_)
  obtain ⟨M5, eM5⟩ : ∃ z : ZI, z = mu M4 6 0 0 := ⟨_, rfl⟩
  have h := h M5 eM5
  have hP : va_P G vwCl (mdW a cs M5 L) H := by rw [eM5]; exact hP
  have hD : va_D A (mdW a cs M5 L) := by rw [eM5]; exact hD
  exact rt_Wv hx hb hr hlk dX5_anew_34 (M5, L) hP hD hS h
abbrev rm_X5_table : Room := { frames := 1, cells := 0, slots := 0, locals := 25 }
set_option maxRecDepth 100000 in
set_option maxHeartbeats 4000000 in
theorem c_X5_table (l : Launch) (G : va_G) (cs ts : Nat → Nat) (a : Nat → Nat) (sz : Nat)  (M : ZI) (L : ZL)   (x1 : Int32) (post : Int32 → ZI → ZL → Prop) (h : w_X5_table M L x1 post) : Met l yX5_table [.code yX5_table cX5_table 3 (some .int)] rm_X5_table (va_Pc [.ref (a 99), .int x1] (CP G cs ts (mdW a cs M L) sz)) (va_Qi (fun (r : Int32) (u : ZI × ZL) => post r u.1 u.2) (CB G (va_A (mdW a cs M L) sz) (fun u => (mdW a cs u.1 u.2))) (va_A (mdW a cs M L) sz)) 0 0 (va_A (mdW a cs M L) sz) := by
  refine ax_W (Qc := fun A => va_Qi (fun (r : Int32) (u : ZI × ZL) => post r u.1 u.2) (CB G A (fun u => (mdW a cs u.1 u.2))) A) (by decide) (Nat.le_of_ble_eq_true rfl) sz ?_
  intro p e s m args below meth c A hx hb hr hlk hml hown hT hC hnm H locs hP hD hS ls hl
  have hK := hC.2.1
  have hA := hC.2.2
  have hl : lv_has ls 3 [(0, .ref (a 99)), (1, .int x1)] := hl
  unfold w_X5_table at h
  refine lv_iload_n hx hb dX5_table_0 rfl (lv_at hl 1 rfl) ?_
  refine lv_i2l (v := x1.toInt64) hx hb dX5_table_1 rfl ?_
  refine lv_lconst (v := 0) hx hb dX5_table_2 (by decide) ?_
  refine ki_X5_108 hx hb hT hown dX5_table_3 ?_
  refine cl_Si (rn_S (rest := []) hx hb hml hown hT hl.1 ck_X5_54 (c_X5_in l x1.toInt64 0 12 _ h) ⟨rfl, rfl, (Nat.le_of_ble_eq_true rfl), (Nat.le_of_ble_eq_true rfl)⟩ ⟨Nat.zero_le _, Nat.zero_le _⟩ rfl rfl (Nat.le_of_ble_eq_true rfl) dX5_table_6) (fun r1 h => ?_)
  refine lv_if_ne (tgt := 17) hx hb dX5_table_9 (by decide) (fun ct => ?_) (fun ct => ?_)
  · have h := h.1 ct
    refine lv_aload_n hx hb dX5_table_17 rfl (lv_at hl 0 rfl) ?_
    refine wi_allM (rn_V (rest := []) (ci := 3) hx hb hml hown hT hl.1 hC hS hP hD 0 rfl rfl rfl ck_X5_113 (c_X5_darkMany l G cs ts a H.size M L  _ h) ⟨rfl, rfl, (Nat.le_of_ble_eq_true rfl), (Nat.le_of_ble_eq_true rfl)⟩ ⟨Nat.le_refl _, Nat.le_refl _⟩ rfl rfl (Nat.le_of_ble_eq_true rfl) dX5_table_18) hD hS hA (fun r2 M3 L4 H locs hP hD hS h => ?_)
    refine lv_istore_n (lv' := [(2, .int r2), (0, .ref (a 99)), (1, .int x1)]) hx hb dX5_table_21 rfl hl (by decide) rfl (fun ls hl => ?_)
    refine lv_aload_n hx hb dX5_table_22 rfl (lv_at hl 1 rfl) ?_
    refine lv_iload_n hx hb dX5_table_23 rfl (lv_at hl 2 rfl) ?_
    refine wv_allM (rn_V (rest := []) (ci := 3) hx hb hml hown hT hl.1 hC hS hP hD 0 rfl rfl rfl ck_X5_116 (c_X5_anew l G cs ts a H.size M3 L4 x1 _ h) ⟨rfl, rfl, (Nat.le_of_ble_eq_true rfl), (Nat.le_of_ble_eq_true rfl)⟩ ⟨Nat.le_refl _, Nat.le_refl _⟩ rfl rfl (Nat.le_of_ble_eq_true rfl) dX5_table_24) hD hS hA (fun M5 L6 H locs hP hD hS h => ?_)
    refine lv_iload_n hx hb dX5_table_27 rfl (lv_at hl 0 rfl) ?_
    exact rt_Wi hx hb hr hlk dX5_table_28 (M5, L6) hP hD hS h
  · have h := h.2 ct
    refine lv_aload_n hx hb dX5_table_12 rfl (lv_at hl 0 rfl) ?_
    refine wi_allM (rn_V (rest := []) (ci := 3) hx hb hml hown hT hl.1 hC hS hP hD 0 rfl rfl rfl ck_X5_110 (c_X5_bad l G cs ts a H.size M L  _ h) ⟨rfl, rfl, (Nat.le_of_ble_eq_true rfl), (Nat.le_of_ble_eq_true rfl)⟩ ⟨Nat.le_refl _, Nat.le_refl _⟩ rfl rfl (Nat.le_of_ble_eq_true rfl) dX5_table_13) hD hS hA (fun r7 M8 L9 H locs hP hD hS h => ?_)
    exact rt_Wi hx hb hr hlk dX5_table_16 (M8, L9) hP hD hS h
abbrev rm_X5_cut : Room := { frames := 2, cells := 0, slots := 0, locals := 45 }
set_option maxRecDepth 100000 in
set_option maxHeartbeats 4000000 in
theorem c_X5_cut (l : Launch) (G : va_G) (cs ts : Nat → Nat) (a : Nat → Nat) (sz : Nat)  (M : ZI) (L : ZL)   (x1 : Int32) (x2 : Int32) (post : Int32 → ZI → ZL → Prop) (h : w_X5_cut M L x1 x2 post) : Met l yX5_cut [.code yX5_cut cX5_cut 4 (some .int)] rm_X5_cut (va_Pc [.ref (a 99), .int x1, .int x2] (CP G cs ts (mdW a cs M L) sz)) (va_Qi (fun (r : Int32) (u : ZI × ZL) => post r u.1 u.2) (CB G (va_A (mdW a cs M L) sz) (fun u => (mdW a cs u.1 u.2))) (va_A (mdW a cs M L) sz)) 0 0 (va_A (mdW a cs M L) sz) := by
  refine ax_W (Qc := fun A => va_Qi (fun (r : Int32) (u : ZI × ZL) => post r u.1 u.2) (CB G A (fun u => (mdW a cs u.1 u.2))) A) (by decide) (Nat.le_of_ble_eq_true rfl) sz ?_
  intro p e s m args below meth c A hx hb hr hlk hml hown hT hC hnm H locs hP hD hS ls hl
  have hK := hC.2.1
  have hA := hC.2.2
  have hl : lv_has ls 4 [(0, .ref (a 99)), (1, .int x1), (2, .int x2)] := hl
  unfold w_X5_cut at h
  refine lv_iload_n hx hb dX5_cut_0 rfl (lv_at hl 1 rfl) ?_
  refine cl_Si (rn_S (rest := []) hx hb hml hown hT hl.1 ck_X5_62 (c_X5_isWhat l x1 _ h) ⟨rfl, rfl, (Nat.le_of_ble_eq_true rfl), (Nat.le_of_ble_eq_true rfl)⟩ ⟨Nat.zero_le _, Nat.zero_le _⟩ rfl rfl (Nat.le_of_ble_eq_true rfl) dX5_cut_1) (fun r1 h => ?_)
  refine lv_if_eq (tgt := 19) hx hb dX5_cut_4 (by decide) (fun ct => ?_) (fun ct => ?_)
  · have h := h.1 ct
    refine lv_aload_n hx hb dX5_cut_19 rfl (lv_at hl 0 rfl) ?_
    refine wi_allM (rn_V (rest := []) (ci := 3) hx hb hml hown hT hl.1 hC hS hP hD 0 rfl rfl rfl ck_X5_110 (c_X5_bad l G cs ts a H.size M L  _ h) ⟨rfl, rfl, (Nat.le_of_ble_eq_true rfl), (Nat.le_of_ble_eq_true rfl)⟩ ⟨Nat.le_refl _, Nat.le_refl _⟩ rfl rfl (Nat.le_of_ble_eq_true rfl) dX5_cut_20) hD hS hA (fun r2 M3 L4 H locs hP hD hS h => ?_)
    exact rt_Wi hx hb hr hlk dX5_cut_23 (M3, L4) hP hD hS h
  · have h := h.2 ct
    refine lv_iload_n hx hb dX5_cut_7 rfl (lv_at hl 2 rfl) ?_
    refine lv_i2l (v := x2.toInt64) hx hb dX5_cut_8 rfl ?_
    refine lv_lconst (v := 0) hx hb dX5_cut_9 (by decide) ?_
    refine ki_X5_120 hx hb hT hown dX5_cut_10 ?_
    refine cl_Si (rn_S (rest := []) hx hb hml hown hT hl.1 ck_X5_54 (c_X5_in l x2.toInt64 0 65535 _ h) ⟨rfl, rfl, (Nat.le_of_ble_eq_true rfl), (Nat.le_of_ble_eq_true rfl)⟩ ⟨Nat.zero_le _, Nat.zero_le _⟩ rfl rfl (Nat.le_of_ble_eq_true rfl) dX5_cut_13) (fun r5 h => ?_)
    refine lv_if_ne (tgt := 24) hx hb dX5_cut_16 (by decide) (fun ct => ?_) (fun ct => ?_)
    · have h := h.1 ct
      refine lv_aload_n hx hb dX5_cut_24 rfl (lv_at hl 0 rfl) ?_
      refine gf_X5_7 hx hb hT hown hK hP 0 rfl rfl dX5_cut_25 ?_
      refine lv_bipush (v := 65) hx hb dX5_cut_28 (by decide) ?_
      refine lv_iload_n hx hb dX5_cut_30 rfl (lv_at hl 1 rfl) ?_
      refine lv_iadd hx hb dX5_cut_31 ?_
      obtain ⟨hi, h⟩ := h
      refine va_iald hx hb hK hP 1 0 rfl rfl hi dX5_cut_32 ?_
      refine lv_topi (fun v6 ev6 => ?_)
      have h := h v6 ev6
      refine lv_istore_n (lv' := [(3, .int v6), (0, .ref (a 99)), (1, .int x1), (2, .int x2)]) hx hb dX5_cut_33 rfl hl (by decide) rfl (fun ls hl => ?_)
      refine lv_aload_n hx hb dX5_cut_34 rfl (lv_at hl 1 rfl) ?_
      refine gf_X5_7 hx hb hT hown hK hP 0 rfl rfl dX5_cut_35 ?_
      refine lv_bipush (v := 65) hx hb dX5_cut_38 (by decide) ?_
      refine lv_iload_n hx hb dX5_cut_40 rfl (lv_at hl 2 rfl) ?_
      refine lv_iadd hx hb dX5_cut_41 ?_
      refine lv_iload_n hx hb dX5_cut_42 rfl (lv_at hl 3 rfl) ?_
      obtain ⟨hi, h⟩ := h
      refine va_iast hx hb hK hP hD hS 1 0 rfl rfl hi dX5_cut_43 (fun H locs hP hD hS => ?_)
      obtain ⟨M7, eM7⟩ : ∃ z : ZI, z = mu M 0 (65 + x1).toNatClampNeg x2 := ⟨_, rfl⟩
      have h := h M7 eM7
      have hP : va_P G vwCl (mdW a cs M7 L) H := by rw [eM7]; exact hP
      have hD : va_D A (mdW a cs M7 L) := by rw [eM7]; exact hD
      refine lv_aload_n hx hb dX5_cut_44 rfl (lv_at hl 1 rfl) ?_
      refine lv_iconst (v := 0) hx hb dX5_cut_45 (by decide) ?_
      refine pf_X5_104 hx hb hT hown hK hP hD hS 0 rfl (Nat.le_of_ble_eq_true rfl) dX5_cut_46 (fun H locs hP hD hS => ?_)
      obtain ⟨M8, eM8⟩ : ∃ z : ZI, z = mu M7 6 0 0 := ⟨_, rfl⟩
      have h := h M8 eM8
      have hP : va_P G vwCl (mdW a cs M8 L) H := by rw [eM8]; exact hP
      have hD : va_D A (mdW a cs M8 L) := by rw [eM8]; exact hD
      refine lv_iload_n hx hb dX5_cut_49 rfl (lv_at hl 0 rfl) ?_
      exact rt_Wi hx hb hr hlk dX5_cut_50 (M8, L) hP hD hS h
    · have h := h.2 ct
      refine lv_aload_n hx hb dX5_cut_19 rfl (lv_at hl 0 rfl) ?_
      refine wi_allM (rn_V (rest := []) (ci := 3) hx hb hml hown hT hl.1 hC hS hP hD 0 rfl rfl rfl ck_X5_110 (c_X5_bad l G cs ts a H.size M L  _ h) ⟨rfl, rfl, (Nat.le_of_ble_eq_true rfl), (Nat.le_of_ble_eq_true rfl)⟩ ⟨Nat.le_refl _, Nat.le_refl _⟩ rfl rfl (Nat.le_of_ble_eq_true rfl) dX5_cut_20) hD hS hA (fun r9 M10 L11 H locs hP hD hS h => ?_)
      exact rt_Wi hx hb hr hlk dX5_cut_23 (M10, L11) hP hD hS h
abbrev rm_X5_note : Room := { frames := 0, cells := 0, slots := 0, locals := 0 }
set_option maxRecDepth 100000 in
set_option maxHeartbeats 4000000 in
theorem c_X5_note (l : Launch) (G : va_G) (cs ts : Nat → Nat) (a : Nat → Nat) (sz : Nat)  (M : ZI) (L : ZL)    (post : ZI → ZL → Prop) (h : w_X5_note M L post) : Met l yX5_note [.code yX5_note cX5_note 2 none] rm_X5_note (va_Pc [.ref (a 99)] (CP G cs ts (mdW a cs M L) sz)) (va_Qv (fun (u : ZI × ZL) => post u.1 u.2) (CB G (va_A (mdW a cs M L) sz) (fun u => (mdW a cs u.1 u.2))) (va_A (mdW a cs M L) sz)) 0 0 (va_A (mdW a cs M L) sz) := by
  refine ax_W (Qc := fun A => va_Qv (fun (u : ZI × ZL) => post u.1 u.2) (CB G A (fun u => (mdW a cs u.1 u.2))) A) (by decide) (Nat.le_of_ble_eq_true rfl) sz ?_
  intro p e s m args below meth c A hx hb hr hlk hml hown hT hC hnm H locs hP hD hS ls hl
  have hK := hC.2.1
  have hA := hC.2.2
  have hl : lv_has ls 2 [(0, .ref (a 99))] := hl
  unfold w_X5_note at h
  have HL51 : ∀ (Lf : ZL)  (K : ZI → Int32 → Prop), (∀ (Mv : ZI) (y1 : Int32), K Mv y1 → ∀ (H : Heap) (locs : List Loc), va_P G vwCl (mdW a cs Mv Lf) H → va_D A (mdW a cs Mv Lf) → va_S A s.heap H locs → ∀ ls : Array Slot, lv_has ls 2 [(0, .ref (a 99)), (1, .int y1)] → W p l e rm_X5_note s m args below meth c H locs 0 0 (MQ below (va_Qv (fun (u : ZI × ZL) => post u.1 u.2) (CB G A (fun u => (mdW a cs u.1 u.2))) A) args s 0 0 A) (F0 m 83 ls [])) → ∀ (n : Nat) (Mv : ZI) (y1 : Int32), itF (w_X5_note_L51 Lf post K) (fun _ _ => False) n Mv y1 → ∀ (H : Heap) (locs : List Loc), va_P G vwCl (mdW a cs Mv Lf) H → va_D A (mdW a cs Mv Lf) → va_S A s.heap H locs → ∀ ls : Array Slot, lv_has ls 2 [(0, .ref (a 99)), (1, .int y1)] → W p l e rm_X5_note s m args below meth c H locs 0 0 (MQ below (va_Qv (fun (u : ZI × ZL) => post u.1 u.2) (CB G A (fun u => (mdW a cs u.1 u.2))) A) args s 0 0 A) (F0 m 51 ls []) := by
    intro Lf K hKK n
    induction n with
    | zero =>
      intro Mv y1 h
      exact absurd h id
    | succ n ih =>
      intro Mv y1 h H locs hP hD hS ls hl
      have h : w_X5_note_L51 Lf post K (itF (w_X5_note_L51 Lf post K) (fun _ _ => False) n) Mv y1 := h
      generalize itF (w_X5_note_L51 Lf post K) (fun _ _ => False) n = rec at h ih
      unfold w_X5_note_L51 at h
      refine lv_iload_n hx hb dX5_note_51 rfl (lv_at hl 1 rfl) ?_
      refine lv_bipush (v := 65) hx hb dX5_note_52 (by decide) ?_
      refine lv_icmp_ge (tgt := 83) hx hb dX5_note_54 (by decide) (fun ct => ?_) (fun ct => ?_)
      · have h := h.1 ct
        exact hKK _ _ h _ _ hP hD hS ls (lv_sub hl [0, 1] rfl)
      · have h := h.2 ct
        refine lv_aload_n hx hb dX5_note_57 rfl (lv_at hl 0 rfl) ?_
        refine gf_X5_23 hx hb hT hown hK hP 0 rfl rfl dX5_note_58 ?_
        refine lv_bipush (v := 65) hx hb dX5_note_61 (by decide) ?_
        refine lv_aload_n hx hb dX5_note_63 rfl (lv_at hl 0 rfl) ?_
        refine gf_X5_104 hx hb hT hown hK hP 0 rfl rfl dX5_note_64 ?_
        refine lv_imul hx hb dX5_note_67 ?_
        refine lv_iload_n hx hb dX5_note_68 rfl (lv_at hl 1 rfl) ?_
        refine lv_iadd hx hb dX5_note_69 ?_
        refine lv_aload_n hx hb dX5_note_70 rfl (lv_at hl 0 rfl) ?_
        refine gf_X5_7 hx hb hT hown hK hP 0 rfl rfl dX5_note_71 ?_
        refine lv_iload_n hx hb dX5_note_74 rfl (lv_at hl 1 rfl) ?_
        obtain ⟨hi, h⟩ := h
        refine va_iald hx hb hK hP 1 0 rfl rfl hi dX5_note_75 ?_
        obtain ⟨hi, h⟩ := h
        refine va_iast hx hb hK hP hD hS 4 0 rfl rfl hi dX5_note_76 (fun H locs hP hD hS => ?_)
        obtain ⟨M1, eM1⟩ : ∃ z : ZI, z = mu Mv 5 ((65 * (Mv 6 0)) + y1).toNatClampNeg (Mv 0 y1.toNatClampNeg) := ⟨_, rfl⟩
        have h := h M1 eM1
        have hP : va_P G vwCl (mdW a cs M1 Lf) H := by rw [eM1]; exact hP
        have hD : va_D A (mdW a cs M1 Lf) := by rw [eM1]; exact hD
        refine lv_iinc (v := y1 + 1) (lv' := [(1, .int (y1 + 1)), (0, .ref (a 99))]) hx hb dX5_note_77 hl (k := 1) rfl rfl (by decide) rfl (fun ls hl => ?_)
        refine lv_goto (tgt := 51) hx hb dX5_note_80 (by decide) ?_
        exact ih _ _ h _ _ hP hD hS ls (lv_sub hl [1, 0] rfl)
  have HL11 : ∀ (Lf : ZL)  (K : ZI → Int32 → Prop), (∀ (Mv : ZI) (y1 : Int32), K Mv y1 → ∀ (H : Heap) (locs : List Loc), va_P G vwCl (mdW a cs Mv Lf) H → va_D A (mdW a cs Mv Lf) → va_S A s.heap H locs → ∀ ls : Array Slot, lv_has ls 2 [(0, .ref (a 99)), (1, .int y1)] → W p l e rm_X5_note s m args below meth c H locs 0 0 (MQ below (va_Qv (fun (u : ZI × ZL) => post u.1 u.2) (CB G A (fun u => (mdW a cs u.1 u.2))) A) args s 0 0 A) (F0 m 39 ls [])) → ∀ (n : Nat) (Mv : ZI) (y1 : Int32), itF (w_X5_note_L11 Lf post K) (fun _ _ => False) n Mv y1 → ∀ (H : Heap) (locs : List Loc), va_P G vwCl (mdW a cs Mv Lf) H → va_D A (mdW a cs Mv Lf) → va_S A s.heap H locs → ∀ ls : Array Slot, lv_has ls 2 [(0, .ref (a 99)), (1, .int y1)] → W p l e rm_X5_note s m args below meth c H locs 0 0 (MQ below (va_Qv (fun (u : ZI × ZL) => post u.1 u.2) (CB G A (fun u => (mdW a cs u.1 u.2))) A) args s 0 0 A) (F0 m 11 ls []) := by
    intro Lf K hKK n
    induction n with
    | zero =>
      intro Mv y1 h
      exact absurd h id
    | succ n ih =>
      intro Mv y1 h H locs hP hD hS ls hl
      have h : w_X5_note_L11 Lf post K (itF (w_X5_note_L11 Lf post K) (fun _ _ => False) n) Mv y1 := h
      generalize itF (w_X5_note_L11 Lf post K) (fun _ _ => False) n = rec at h ih
      unfold w_X5_note_L11 at h
      refine lv_iload_n hx hb dX5_note_11 rfl (lv_at hl 1 rfl) ?_
      refine lv_sipush (v := 455) hx hb dX5_note_12 (by decide) ?_
      refine lv_icmp_ge (tgt := 39) hx hb dX5_note_15 (by decide) (fun ct => ?_) (fun ct => ?_)
      · have h := h.1 ct
        exact hKK _ _ h _ _ hP hD hS ls (lv_sub hl [0, 1] rfl)
      · have h := h.2 ct
        refine lv_aload_n hx hb dX5_note_18 rfl (lv_at hl 0 rfl) ?_
        refine gf_X5_23 hx hb hT hown hK hP 0 rfl rfl dX5_note_19 ?_
        refine lv_iload_n hx hb dX5_note_22 rfl (lv_at hl 1 rfl) ?_
        refine lv_aload_n hx hb dX5_note_23 rfl (lv_at hl 0 rfl) ?_
        refine gf_X5_23 hx hb hT hown hK hP 0 rfl rfl dX5_note_24 ?_
        refine lv_iload_n hx hb dX5_note_27 rfl (lv_at hl 1 rfl) ?_
        refine lv_bipush (v := 65) hx hb dX5_note_28 (by decide) ?_
        refine lv_iadd hx hb dX5_note_30 ?_
        obtain ⟨hi, h⟩ := h
        refine va_iald hx hb hK hP 4 0 rfl rfl hi dX5_note_31 ?_
        obtain ⟨hi, h⟩ := h
        refine va_iast hx hb hK hP hD hS 4 0 rfl rfl hi dX5_note_32 (fun H locs hP hD hS => ?_)
        obtain ⟨M6, eM6⟩ : ∃ z : ZI, z = mu Mv 5 y1.toNatClampNeg (Mv 5 (y1 + 65).toNatClampNeg) := ⟨_, rfl⟩
        have h := h M6 eM6
        have hP : va_P G vwCl (mdW a cs M6 Lf) H := by rw [eM6]; exact hP
        have hD : va_D A (mdW a cs M6 Lf) := by rw [eM6]; exact hD
        refine lv_iinc (v := y1 + 1) (lv' := [(1, .int (y1 + 1)), (0, .ref (a 99))]) hx hb dX5_note_33 hl (k := 1) rfl rfl (by decide) rfl (fun ls hl => ?_)
        refine lv_goto (tgt := 11) hx hb dX5_note_36 (by decide) ?_
        exact ih _ _ h _ _ hP hD hS ls (lv_sub hl [1, 0] rfl)
  refine lv_aload_n hx hb dX5_note_0 rfl (lv_at hl 0 rfl) ?_
  refine gf_X5_104 hx hb hT hown hK hP 0 rfl rfl dX5_note_1 ?_
  refine lv_bipush (v := 8) hx hb dX5_note_4 (by decide) ?_
  refine lv_icmp_ne (tgt := 49) hx hb dX5_note_6 (by decide) (fun ct => ?_) (fun ct => ?_)
  · have h := h.1 ct
    refine lv_iconst (v := 0) hx hb dX5_note_49 (by decide) ?_
    refine lv_istore_n (lv' := [(1, .int 0), (0, .ref (a 99))]) hx hb dX5_note_50 rfl hl (by decide) rfl (fun ls hl => ?_)
    obtain ⟨n5, h⟩ := h
    refine HL51 _ _ (fun M2 v3 h H locs hP hD hS ls hl => ?_) n5 _ _ h _ _ hP hD hS ls (lv_sub hl [1, 0] rfl)
    refine lv_aload_n hx hb dX5_note_83 rfl (lv_at hl 0 rfl) ?_
    refine lv_dup hx hb dX5_note_84 rfl ?_
    refine gf_X5_104 hx hb hT hown hK hP 0 rfl rfl dX5_note_85 ?_
    refine lv_iconst (v := 1) hx hb dX5_note_88 (by decide) ?_
    refine lv_iadd hx hb dX5_note_89 ?_
    refine pf_X5_104 hx hb hT hown hK hP hD hS 0 rfl (Nat.le_of_ble_eq_true rfl) dX5_note_90 (fun H locs hP hD hS => ?_)
    obtain ⟨M4, eM4⟩ : ∃ z : ZI, z = mu M2 6 0 ((M2 6 0) + 1) := ⟨_, rfl⟩
    have h := h M4 eM4
    have hP : va_P G vwCl (mdW a cs M4 L) H := by rw [eM4]; exact hP
    have hD : va_D A (mdW a cs M4 L) := by rw [eM4]; exact hD
    exact rt_Wv hx hb hr hlk dX5_note_93 (M4, L) hP hD hS h
  · have h := h.2 ct
    refine lv_iconst (v := 0) hx hb dX5_note_9 (by decide) ?_
    refine lv_istore_n (lv' := [(1, .int 0), (0, .ref (a 99))]) hx hb dX5_note_10 rfl hl (by decide) rfl (fun ls hl => ?_)
    obtain ⟨n14, h⟩ := h
    refine HL11 _ _ (fun M7 v8 h H locs hP hD hS ls hl => ?_) n14 _ _ h _ _ hP hD hS ls (lv_sub hl [1, 0] rfl)
    refine lv_aload_n hx hb dX5_note_39 rfl (lv_at hl 0 rfl) ?_
    refine lv_dup hx hb dX5_note_40 rfl ?_
    refine gf_X5_104 hx hb hT hown hK hP 0 rfl rfl dX5_note_41 ?_
    refine lv_iconst (v := 1) hx hb dX5_note_44 (by decide) ?_
    refine lv_isub hx hb dX5_note_45 ?_
    refine pf_X5_104 hx hb hT hown hK hP hD hS 0 rfl (Nat.le_of_ble_eq_true rfl) dX5_note_46 (fun H locs hP hD hS => ?_)
    obtain ⟨M9, eM9⟩ : ∃ z : ZI, z = mu M7 6 0 ((M7 6 0) - 1) := ⟨_, rfl⟩
    have h := h M9 eM9
    have hP : va_P G vwCl (mdW a cs M9 L) H := by rw [eM9]; exact hP
    have hD : va_D A (mdW a cs M9 L) := by rw [eM9]; exact hD
    refine lv_iconst (v := 0) hx hb dX5_note_49 (by decide) ?_
    refine lv_istore_n (lv' := [(1, .int 0), (0, .ref (a 99))]) hx hb dX5_note_50 rfl hl (by decide) rfl (fun ls hl => ?_)
    obtain ⟨n13, h⟩ := h
    refine HL51 _ _ (fun M10 v11 h H locs hP hD hS ls hl => ?_) n13 _ _ h _ _ hP hD hS ls (lv_sub hl [1, 0] rfl)
    refine lv_aload_n hx hb dX5_note_83 rfl (lv_at hl 0 rfl) ?_
    refine lv_dup hx hb dX5_note_84 rfl ?_
    refine gf_X5_104 hx hb hT hown hK hP 0 rfl rfl dX5_note_85 ?_
    refine lv_iconst (v := 1) hx hb dX5_note_88 (by decide) ?_
    refine lv_iadd hx hb dX5_note_89 ?_
    refine pf_X5_104 hx hb hT hown hK hP hD hS 0 rfl (Nat.le_of_ble_eq_true rfl) dX5_note_90 (fun H locs hP hD hS => ?_)
    obtain ⟨M12, eM12⟩ : ∃ z : ZI, z = mu M10 6 0 ((M10 6 0) + 1) := ⟨_, rfl⟩
    have h := h M12 eM12
    have hP : va_P G vwCl (mdW a cs M12 L) H := by rw [eM12]; exact hP
    have hD : va_D A (mdW a cs M12 L) := by rw [eM12]; exact hD
    exact rt_Wv hx hb hr hlk dX5_note_93 (M12, L) hP hD hS h
abbrev rm_X5_dip : Room := { frames := 1, cells := 0, slots := 0, locals := 25 }
set_option maxRecDepth 100000 in
set_option maxHeartbeats 4000000 in
theorem c_X5_dip (l : Launch) (G : va_G) (cs ts : Nat → Nat) (a : Nat → Nat) (sz : Nat)  (M : ZI) (L : ZL)   (x1 : Int32) (post : Int32 → ZI → ZL → Prop) (h : w_X5_dip M L x1 post) : Met l yX5_dip [.code yX5_dip cX5_dip 3 (some .int)] rm_X5_dip (va_Pc [.ref (a 99), .int x1] (CP G cs ts (mdW a cs M L) sz)) (va_Qi (fun (r : Int32) (u : ZI × ZL) => post r u.1 u.2) (CB G (va_A (mdW a cs M L) sz) (fun u => (mdW a cs u.1 u.2))) (va_A (mdW a cs M L) sz)) 0 0 (va_A (mdW a cs M L) sz) := by
  refine ax_W (Qc := fun A => va_Qi (fun (r : Int32) (u : ZI × ZL) => post r u.1 u.2) (CB G A (fun u => (mdW a cs u.1 u.2))) A) (by decide) (Nat.le_of_ble_eq_true rfl) sz ?_
  intro p e s m args below meth c A hx hb hr hlk hml hown hT hC hnm H locs hP hD hS ls hl
  have hK := hC.2.1
  have hA := hC.2.2
  have hl : lv_has ls 3 [(0, .ref (a 99)), (1, .int x1)] := hl
  unfold w_X5_dip at h
  refine lv_iload_n hx hb dX5_dip_0 rfl (lv_at hl 1 rfl) ?_
  refine lv_i2l (v := x1.toInt64) hx hb dX5_dip_1 rfl ?_
  refine lv_lconst (v := 0) hx hb dX5_dip_2 (by decide) ?_
  refine ki_X5_108 hx hb hT hown dX5_dip_3 ?_
  refine cl_Si (rn_S (rest := []) hx hb hml hown hT hl.1 ck_X5_54 (c_X5_in l x1.toInt64 0 12 _ h) ⟨rfl, rfl, (Nat.le_of_ble_eq_true rfl), (Nat.le_of_ble_eq_true rfl)⟩ ⟨Nat.zero_le _, Nat.zero_le _⟩ rfl rfl (Nat.le_of_ble_eq_true rfl) dX5_dip_6) (fun r1 h => ?_)
  refine lv_if_ne (tgt := 17) hx hb dX5_dip_9 (by decide) (fun ct => ?_) (fun ct => ?_)
  · have h := h.1 ct
    refine lv_aload_n hx hb dX5_dip_17 rfl (lv_at hl 0 rfl) ?_
    refine wv_allM (rn_V (rest := []) (ci := 3) hx hb hml hown hT hl.1 hC hS hP hD 0 rfl rfl rfl ck_X5_122 (c_X5_note l G cs ts a H.size M L  _ h) ⟨rfl, rfl, (Nat.le_of_ble_eq_true rfl), (Nat.le_of_ble_eq_true rfl)⟩ ⟨Nat.le_refl _, Nat.le_refl _⟩ rfl rfl (Nat.le_of_ble_eq_true rfl) dX5_dip_18) hD hS hA (fun M2 L3 H locs hP hD hS h => ?_)
    refine lv_aload_n hx hb dX5_dip_21 rfl (lv_at hl 0 rfl) ?_
    refine gf_X5_7 hx hb hT hown hK hP 0 rfl rfl dX5_dip_22 ?_
    refine lv_bipush (v := 64) hx hb dX5_dip_25 (by decide) ?_
    have hi : vp_in 64 99 := by unfold vp_in; decide
    refine va_iald hx hb hK hP 1 0 rfl rfl hi dX5_dip_27 ?_
    refine lv_topi (fun v4 ev4 => ?_)
    have h := h v4 ev4
    refine lv_istore_n (lv' := [(2, .int v4), (0, .ref (a 99)), (1, .int x1)]) hx hb dX5_dip_28 rfl hl (by decide) rfl (fun ls hl => ?_)
    refine lv_aload_n hx hb dX5_dip_29 rfl (lv_at hl 1 rfl) ?_
    refine gf_X5_7 hx hb hT hown hK hP 0 rfl rfl dX5_dip_30 ?_
    refine lv_bipush (v := 64) hx hb dX5_dip_33 (by decide) ?_
    refine lv_iload_n hx hb dX5_dip_35 rfl (lv_at hl 2 rfl) ?_
    have hi : vp_in 64 99 := by unfold vp_in; decide
    refine va_iast hx hb hK hP hD hS 1 0 rfl rfl hi dX5_dip_36 (fun H locs hP hD hS => ?_)
    obtain ⟨M5, eM5⟩ : ∃ z : ZI, z = mu M2 0 64 x1 := ⟨_, rfl⟩
    have h := h M5 eM5
    have hP : va_P G vwCl (mdW a cs M5 L3) H := by rw [eM5]; exact hP
    have hD : va_D A (mdW a cs M5 L3) := by rw [eM5]; exact hD
    refine lv_iload_n hx hb dX5_dip_37 rfl (lv_at hl 0 rfl) ?_
    exact rt_Wi hx hb hr hlk dX5_dip_38 (M5, L3) hP hD hS h
  · have h := h.2 ct
    refine lv_aload_n hx hb dX5_dip_12 rfl (lv_at hl 0 rfl) ?_
    refine wi_allM (rn_V (rest := []) (ci := 3) hx hb hml hown hT hl.1 hC hS hP hD 0 rfl rfl rfl ck_X5_110 (c_X5_bad l G cs ts a H.size M L  _ h) ⟨rfl, rfl, (Nat.le_of_ble_eq_true rfl), (Nat.le_of_ble_eq_true rfl)⟩ ⟨Nat.le_refl _, Nat.le_refl _⟩ rfl rfl (Nat.le_of_ble_eq_true rfl) dX5_dip_13) hD hS hA (fun r6 M7 L8 H locs hP hD hS h => ?_)
    exact rt_Wi hx hb hr hlk dX5_dip_16 (M7, L8) hP hD hS h
abbrev rm_X5_print : Room := { frames := 5, cells := 0, slots := 0, locals := 129 }
set_option maxRecDepth 100000 in
set_option maxHeartbeats 4000000 in
theorem c_X5_print (l : Launch) (G : va_G) (cs ts : Nat → Nat) (a : Nat → Nat) (sz : Nat)  (M : ZI) (L : ZL)   (x1 : Int32) (x2 : Int32) (x3 : Int32) (x4 : Int32) (x5 : Int32) (post : Int32 → ZI → ZL → Prop) (h : w_X5_print M L x1 x2 x3 x4 x5 post) : Met l yX5_print [.code yX5_print cX5_print 6 (some .int)] rm_X5_print (va_Pc [.ref (a 99), .int x1, .int x2, .int x3, .int x4, .int x5] (CP G cs ts (mdW a cs M L) sz)) (va_Qi (fun (r : Int32) (u : ZI × ZL) => post r u.1 u.2) (CB G (va_A (mdW a cs M L) sz) (fun u => (mdW a cs u.1 u.2))) (va_A (mdW a cs M L) sz)) 0 0 (va_A (mdW a cs M L) sz) := by
  refine ax_W (Qc := fun A => va_Qi (fun (r : Int32) (u : ZI × ZL) => post r u.1 u.2) (CB G A (fun u => (mdW a cs u.1 u.2))) A) (by decide) (Nat.le_of_ble_eq_true rfl) sz ?_
  intro p e s m args below meth c A hx hb hr hlk hml hown hT hC hnm H locs hP hD hS ls hl
  have hK := hC.2.1
  have hA := hC.2.2
  have hl : lv_has ls 6 [(0, .ref (a 99)), (1, .int x1), (2, .int x2), (3, .int x3), (4, .int x4), (5, .int x5)] := hl
  unfold w_X5_print at h
  refine lv_iload_n hx hb dX5_print_0 rfl (lv_at hl 1 rfl) ?_
  refine lv_iload_n hx hb dX5_print_1 rfl (lv_at hl 2 rfl) ?_
  refine lv_iload_n hx hb dX5_print_2 rfl (lv_at hl 3 rfl) ?_
  refine lv_iload hx hb dX5_print_3 (lv_at hl 4 rfl) ?_
  refine lv_iload hx hb dX5_print_5 (lv_at hl 5 rfl) ?_
  refine cl_Si (rn_S (rest := []) hx hb hml hown hT hl.1 ck_X5_125 (c_X5_isPrint l x1 x2 x3 x4 x5 _ h) ⟨rfl, rfl, (Nat.le_of_ble_eq_true rfl), (Nat.le_of_ble_eq_true rfl)⟩ ⟨Nat.zero_le _, Nat.zero_le _⟩ rfl rfl (Nat.le_of_ble_eq_true rfl) dX5_print_7) (fun r1 h => ?_)
  refine lv_if_ne (tgt := 18) hx hb dX5_print_10 (by decide) (fun ct => ?_) (fun ct => ?_)
  · have h := h.1 ct
    refine lv_aload_n hx hb dX5_print_18 rfl (lv_at hl 0 rfl) ?_
    refine gf_X5_7 hx hb hT hown hK hP 0 rfl rfl dX5_print_19 ?_
    refine lv_bipush (v := 64) hx hb dX5_print_22 (by decide) ?_
    have hi : vp_in 64 99 := by unfold vp_in; decide
    refine va_iald hx hb hK hP 1 0 rfl rfl hi dX5_print_24 ?_
    refine lv_if_ne (tgt := 33) hx hb dX5_print_25 (by decide) (fun ct => ?_) (fun ct => ?_)
    · have h := h.1 ct
      refine lv_aload_n hx hb dX5_print_33 rfl (lv_at hl 0 rfl) ?_
      refine wv_allM (rn_V (rest := []) (ci := 3) hx hb hml hown hT hl.1 hC hS hP hD 0 rfl rfl rfl ck_X5_122 (c_X5_note l G cs ts a H.size M L  _ h) ⟨rfl, rfl, (Nat.le_of_ble_eq_true rfl), (Nat.le_of_ble_eq_true rfl)⟩ ⟨Nat.le_refl _, Nat.le_refl _⟩ rfl rfl (Nat.le_of_ble_eq_true rfl) dX5_print_34) hD hS hA (fun M2 L3 H locs hP hD hS h => ?_)
      refine lv_aload_n hx hb dX5_print_37 rfl (lv_at hl 0 rfl) ?_
      refine lv_iload_n hx hb dX5_print_38 rfl (lv_at hl 1 rfl) ?_
      refine lv_iload_n hx hb dX5_print_39 rfl (lv_at hl 2 rfl) ?_
      refine lv_iload_n hx hb dX5_print_40 rfl (lv_at hl 3 rfl) ?_
      refine lv_iload hx hb dX5_print_41 (lv_at hl 4 rfl) ?_
      refine lv_iload hx hb dX5_print_43 (lv_at hl 5 rfl) ?_
      refine wi_allM (rn_V (rest := []) (ci := 3) hx hb hml hown hT hl.1 hC hS hP hD 0 rfl rfl rfl ck_X5_132 (c_X5_printOne l G cs ts a H.size M2 L3 x1 x2 x3 x4 x5 _ h) ⟨rfl, rfl, (Nat.le_of_ble_eq_true rfl), (Nat.le_of_ble_eq_true rfl)⟩ ⟨Nat.le_refl _, Nat.le_refl _⟩ rfl rfl (Nat.le_of_ble_eq_true rfl) dX5_print_45) hD hS hA (fun r4 M5 L6 H locs hP hD hS h => ?_)
      exact rt_Wi hx hb hr hlk dX5_print_48 (M5, L6) hP hD hS h
    · have h := h.2 ct
      refine lv_aload_n hx hb dX5_print_28 rfl (lv_at hl 0 rfl) ?_
      refine wi_allM (rn_V (rest := []) (ci := 3) hx hb hml hown hT hl.1 hC hS hP hD 0 rfl rfl rfl ck_X5_129 (c_X5_no l G cs ts a H.size M L  _ h) ⟨rfl, rfl, (Nat.le_of_ble_eq_true rfl), (Nat.le_of_ble_eq_true rfl)⟩ ⟨Nat.le_refl _, Nat.le_refl _⟩ rfl rfl (Nat.le_of_ble_eq_true rfl) dX5_print_29) hD hS hA (fun r7 M8 L9 H locs hP hD hS h => ?_)
      exact rt_Wi hx hb hr hlk dX5_print_32 (M8, L9) hP hD hS h
  · have h := h.2 ct
    refine lv_aload_n hx hb dX5_print_13 rfl (lv_at hl 0 rfl) ?_
    refine wi_allM (rn_V (rest := []) (ci := 3) hx hb hml hown hT hl.1 hC hS hP hD 0 rfl rfl rfl ck_X5_110 (c_X5_bad l G cs ts a H.size M L  _ h) ⟨rfl, rfl, (Nat.le_of_ble_eq_true rfl), (Nat.le_of_ble_eq_true rfl)⟩ ⟨Nat.le_refl _, Nat.le_refl _⟩ rfl rfl (Nat.le_of_ble_eq_true rfl) dX5_print_14) hD hS hA (fun r10 M11 L12 H locs hP hD hS h => ?_)
    exact rt_Wi hx hb hr hlk dX5_print_17 (M11, L12) hP hD hS h
abbrev rm_X5_undo : Room := { frames := 1, cells := 0, slots := 0, locals := 20 }
set_option maxRecDepth 100000 in
set_option maxHeartbeats 4000000 in
theorem c_X5_undo (l : Launch) (G : va_G) (cs ts : Nat → Nat) (a : Nat → Nat) (sz : Nat)  (M : ZI) (L : ZL)    (post : Int32 → ZI → ZL → Prop) (h : w_X5_undo M L post) : Met l yX5_undo [.code yX5_undo cX5_undo 2 (some .int)] rm_X5_undo (va_Pc [.ref (a 99)] (CP G cs ts (mdW a cs M L) sz)) (va_Qi (fun (r : Int32) (u : ZI × ZL) => post r u.1 u.2) (CB G (va_A (mdW a cs M L) sz) (fun u => (mdW a cs u.1 u.2))) (va_A (mdW a cs M L) sz)) 0 0 (va_A (mdW a cs M L) sz) := by
  refine ax_W (Qc := fun A => va_Qi (fun (r : Int32) (u : ZI × ZL) => post r u.1 u.2) (CB G A (fun u => (mdW a cs u.1 u.2))) A) (by decide) (Nat.le_of_ble_eq_true rfl) sz ?_
  intro p e s m args below meth c A hx hb hr hlk hml hown hT hC hnm H locs hP hD hS ls hl
  have hK := hC.2.1
  have hA := hC.2.2
  have hl : lv_has ls 2 [(0, .ref (a 99))] := hl
  unfold w_X5_undo at h
  have HL24 : ∀ (Lf : ZL)  (K : ZI → Int32 → Prop), (∀ (Mv : ZI) (y1 : Int32), K Mv y1 → ∀ (H : Heap) (locs : List Loc), va_P G vwCl (mdW a cs Mv Lf) H → va_D A (mdW a cs Mv Lf) → va_S A s.heap H locs → ∀ ls : Array Slot, lv_has ls 2 [(0, .ref (a 99)), (1, .int y1)] → W p l e rm_X5_undo s m args below meth c H locs 0 0 (MQ below (va_Qi (fun (r : Int32) (u : ZI × ZL) => post r u.1 u.2) (CB G A (fun u => (mdW a cs u.1 u.2))) A) args s 0 0 A) (F0 m 56 ls [])) → ∀ (n : Nat) (Mv : ZI) (y1 : Int32), itF (w_X5_undo_L24 Lf post K) (fun _ _ => False) n Mv y1 → ∀ (H : Heap) (locs : List Loc), va_P G vwCl (mdW a cs Mv Lf) H → va_D A (mdW a cs Mv Lf) → va_S A s.heap H locs → ∀ ls : Array Slot, lv_has ls 2 [(0, .ref (a 99)), (1, .int y1)] → W p l e rm_X5_undo s m args below meth c H locs 0 0 (MQ below (va_Qi (fun (r : Int32) (u : ZI × ZL) => post r u.1 u.2) (CB G A (fun u => (mdW a cs u.1 u.2))) A) args s 0 0 A) (F0 m 24 ls []) := by
    intro Lf K hKK n
    induction n with
    | zero =>
      intro Mv y1 h
      exact absurd h id
    | succ n ih =>
      intro Mv y1 h H locs hP hD hS ls hl
      have h : w_X5_undo_L24 Lf post K (itF (w_X5_undo_L24 Lf post K) (fun _ _ => False) n) Mv y1 := h
      generalize itF (w_X5_undo_L24 Lf post K) (fun _ _ => False) n = rec at h ih
      unfold w_X5_undo_L24 at h
      refine lv_iload_n hx hb dX5_undo_24 rfl (lv_at hl 1 rfl) ?_
      refine lv_bipush (v := 65) hx hb dX5_undo_25 (by decide) ?_
      refine lv_icmp_ge (tgt := 56) hx hb dX5_undo_27 (by decide) (fun ct => ?_) (fun ct => ?_)
      · have h := h.1 ct
        exact hKK _ _ h _ _ hP hD hS ls (lv_sub hl [0, 1] rfl)
      · have h := h.2 ct
        refine lv_aload_n hx hb dX5_undo_30 rfl (lv_at hl 0 rfl) ?_
        refine gf_X5_7 hx hb hT hown hK hP 0 rfl rfl dX5_undo_31 ?_
        refine lv_iload_n hx hb dX5_undo_34 rfl (lv_at hl 1 rfl) ?_
        refine lv_aload_n hx hb dX5_undo_35 rfl (lv_at hl 0 rfl) ?_
        refine gf_X5_23 hx hb hT hown hK hP 0 rfl rfl dX5_undo_36 ?_
        refine lv_bipush (v := 65) hx hb dX5_undo_39 (by decide) ?_
        refine lv_aload_n hx hb dX5_undo_41 rfl (lv_at hl 0 rfl) ?_
        refine gf_X5_104 hx hb hT hown hK hP 0 rfl rfl dX5_undo_42 ?_
        refine lv_imul hx hb dX5_undo_45 ?_
        refine lv_iload_n hx hb dX5_undo_46 rfl (lv_at hl 1 rfl) ?_
        refine lv_iadd hx hb dX5_undo_47 ?_
        obtain ⟨hi, h⟩ := h
        refine va_iald hx hb hK hP 4 0 rfl rfl hi dX5_undo_48 ?_
        obtain ⟨hi, h⟩ := h
        refine va_iast hx hb hK hP hD hS 1 0 rfl rfl hi dX5_undo_49 (fun H locs hP hD hS => ?_)
        obtain ⟨M2, eM2⟩ : ∃ z : ZI, z = mu Mv 0 y1.toNatClampNeg (Mv 5 ((65 * (Mv 6 0)) + y1).toNatClampNeg) := ⟨_, rfl⟩
        have h := h M2 eM2
        have hP : va_P G vwCl (mdW a cs M2 Lf) H := by rw [eM2]; exact hP
        have hD : va_D A (mdW a cs M2 Lf) := by rw [eM2]; exact hD
        refine lv_iinc (v := y1 + 1) (lv' := [(1, .int (y1 + 1)), (0, .ref (a 99))]) hx hb dX5_undo_50 hl (k := 1) rfl rfl (by decide) rfl (fun ls hl => ?_)
        refine lv_goto (tgt := 24) hx hb dX5_undo_53 (by decide) ?_
        exact ih _ _ h _ _ hP hD hS ls (lv_sub hl [1, 0] rfl)
  refine lv_aload_n hx hb dX5_undo_0 rfl (lv_at hl 0 rfl) ?_
  refine gf_X5_104 hx hb hT hown hK hP 0 rfl rfl dX5_undo_1 ?_
  refine lv_if_ne (tgt := 12) hx hb dX5_undo_4 (by decide) (fun ct => ?_) (fun ct => ?_)
  · have h := h.1 ct
    refine lv_aload_n hx hb dX5_undo_12 rfl (lv_at hl 0 rfl) ?_
    refine lv_dup hx hb dX5_undo_13 rfl ?_
    refine gf_X5_104 hx hb hT hown hK hP 0 rfl rfl dX5_undo_14 ?_
    refine lv_iconst (v := 1) hx hb dX5_undo_17 (by decide) ?_
    refine lv_isub hx hb dX5_undo_18 ?_
    refine pf_X5_104 hx hb hT hown hK hP hD hS 0 rfl (Nat.le_of_ble_eq_true rfl) dX5_undo_19 (fun H locs hP hD hS => ?_)
    obtain ⟨M1, eM1⟩ : ∃ z : ZI, z = mu M 6 0 ((M 6 0) - 1) := ⟨_, rfl⟩
    have h := h M1 eM1
    have hP : va_P G vwCl (mdW a cs M1 L) H := by rw [eM1]; exact hP
    have hD : va_D A (mdW a cs M1 L) := by rw [eM1]; exact hD
    refine lv_iconst (v := 0) hx hb dX5_undo_22 (by decide) ?_
    refine lv_istore_n (lv' := [(1, .int 0), (0, .ref (a 99))]) hx hb dX5_undo_23 rfl hl (by decide) rfl (fun ls hl => ?_)
    obtain ⟨n5, h⟩ := h
    refine HL24 _ _ (fun M3 v4 h H locs hP hD hS ls hl => ?_) n5 _ _ h _ _ hP hD hS ls (lv_sub hl [1, 0] rfl)
    refine lv_aload_n hx hb dX5_undo_56 rfl (lv_at hl 0 rfl) ?_
    refine gf_X5_7 hx hb hT hown hK hP 0 rfl rfl dX5_undo_57 ?_
    refine lv_bipush (v := 64) hx hb dX5_undo_60 (by decide) ?_
    have hi : vp_in 64 99 := by unfold vp_in; decide
    refine va_iald hx hb hK hP 1 0 rfl rfl hi dX5_undo_62 ?_
    exact rt_Wi hx hb hr hlk dX5_undo_63 (M3, L) hP hD hS h
  · have h := h.2 ct
    refine lv_aload_n hx hb dX5_undo_7 rfl (lv_at hl 0 rfl) ?_
    refine wi_allM (rn_V (rest := []) (ci := 3) hx hb hml hown hT hl.1 hC hS hP hD 0 rfl rfl rfl ck_X5_129 (c_X5_no l G cs ts a H.size M L  _ h) ⟨rfl, rfl, (Nat.le_of_ble_eq_true rfl), (Nat.le_of_ble_eq_true rfl)⟩ ⟨Nat.le_refl _, Nat.le_refl _⟩ rfl rfl (Nat.le_of_ble_eq_true rfl) dX5_undo_8) hD hS hA (fun r6 M7 L8 H locs hP hD hS h => ?_)
    exact rt_Wi hx hb hr hlk dX5_undo_11 (M7, L8) hP hD hS h
abbrev rm_X5_type : Room := { frames := 1, cells := 0, slots := 0, locals := 25 }
set_option maxRecDepth 100000 in
set_option maxHeartbeats 4000000 in
theorem c_X5_type (l : Launch) (G : va_G) (cs ts : Nat → Nat) (a : Nat → Nat) (sz : Nat)  (M : ZI) (L : ZL)   (x1 : Int32) (post : Int32 → ZI → ZL → Prop) (h : w_X5_type M L x1 post) : Met l yX5_type [.code yX5_type cX5_type 2 (some .int)] rm_X5_type (va_Pc [.ref (a 99), .int x1] (CP G cs ts (mdW a cs M L) sz)) (va_Qi (fun (r : Int32) (u : ZI × ZL) => post r u.1 u.2) (CB G (va_A (mdW a cs M L) sz) (fun u => (mdW a cs u.1 u.2))) (va_A (mdW a cs M L) sz)) 0 0 (va_A (mdW a cs M L) sz) := by
  refine ax_W (Qc := fun A => va_Qi (fun (r : Int32) (u : ZI × ZL) => post r u.1 u.2) (CB G A (fun u => (mdW a cs u.1 u.2))) A) (by decide) (Nat.le_of_ble_eq_true rfl) sz ?_
  intro p e s m args below meth c A hx hb hr hlk hml hown hT hC hnm H locs hP hD hS ls hl
  have hK := hC.2.1
  have hA := hC.2.2
  have hl : lv_has ls 2 [(0, .ref (a 99)), (1, .int x1)] := hl
  unfold w_X5_type at h
  refine lv_iload_n hx hb dX5_type_0 rfl (lv_at hl 1 rfl) ?_
  refine lv_i2l (v := x1.toInt64) hx hb dX5_type_1 rfl ?_
  refine lv_lconst (v := 0) hx hb dX5_type_2 (by decide) ?_
  refine ki_X5_136 hx hb hT hown dX5_type_3 ?_
  refine cl_Si (rn_S (rest := []) hx hb hml hown hT hl.1 ck_X5_54 (c_X5_in l x1.toInt64 0 127 _ h) ⟨rfl, rfl, (Nat.le_of_ble_eq_true rfl), (Nat.le_of_ble_eq_true rfl)⟩ ⟨Nat.zero_le _, Nat.zero_le _⟩ rfl rfl (Nat.le_of_ble_eq_true rfl) dX5_type_6) (fun r1 h => ?_)
  refine lv_if_ne (tgt := 17) hx hb dX5_type_9 (by decide) (fun ct => ?_) (fun ct => ?_)
  · have h := h.1 ct
    refine lv_aload_n hx hb dX5_type_17 rfl (lv_at hl 0 rfl) ?_
    refine gf_X5_138 hx hb hT hown hK hP 0 rfl rfl dX5_type_18 ?_
    refine lv_sipush (v := 150) hx hb dX5_type_21 (by decide) ?_
    refine lv_icmp_ne (tgt := 32) hx hb dX5_type_24 (by decide) (fun ct => ?_) (fun ct => ?_)
    · have h := h.1 ct
      refine lv_aload_n hx hb dX5_type_32 rfl (lv_at hl 0 rfl) ?_
      refine gf_X5_26 hx hb hT hown hK hP 0 rfl rfl dX5_type_33 ?_
      refine lv_aload_n hx hb dX5_type_36 rfl (lv_at hl 0 rfl) ?_
      refine gf_X5_138 hx hb hT hown hK hP 0 rfl rfl dX5_type_37 ?_
      refine lv_iload_n hx hb dX5_type_40 rfl (lv_at hl 1 rfl) ?_
      obtain ⟨hi, h⟩ := h
      refine va_iast hx hb hK hP hD hS 5 0 rfl rfl hi dX5_type_41 (fun H locs hP hD hS => ?_)
      obtain ⟨M2, eM2⟩ : ∃ z : ZI, z = mu M 7 (M 8 0).toNatClampNeg x1 := ⟨_, rfl⟩
      have h := h M2 eM2
      have hP : va_P G vwCl (mdW a cs M2 L) H := by rw [eM2]; exact hP
      have hD : va_D A (mdW a cs M2 L) := by rw [eM2]; exact hD
      refine lv_aload_n hx hb dX5_type_42 rfl (lv_at hl 0 rfl) ?_
      refine lv_dup hx hb dX5_type_43 rfl ?_
      refine gf_X5_138 hx hb hT hown hK hP 0 rfl rfl dX5_type_44 ?_
      refine lv_iconst (v := 1) hx hb dX5_type_47 (by decide) ?_
      refine lv_iadd hx hb dX5_type_48 ?_
      refine pf_X5_138 hx hb hT hown hK hP hD hS 0 rfl (Nat.le_of_ble_eq_true rfl) dX5_type_49 (fun H locs hP hD hS => ?_)
      obtain ⟨M3, eM3⟩ : ∃ z : ZI, z = mu M2 8 0 ((M2 8 0) + 1) := ⟨_, rfl⟩
      have h := h M3 eM3
      have hP : va_P G vwCl (mdW a cs M3 L) H := by rw [eM3]; exact hP
      have hD : va_D A (mdW a cs M3 L) := by rw [eM3]; exact hD
      refine lv_aload_n hx hb dX5_type_52 rfl (lv_at hl 0 rfl) ?_
      refine gf_X5_138 hx hb hT hown hK hP 0 rfl rfl dX5_type_53 ?_
      exact rt_Wi hx hb hr hlk dX5_type_56 (M3, L) hP hD hS h
    · have h := h.2 ct
      refine lv_aload_n hx hb dX5_type_27 rfl (lv_at hl 0 rfl) ?_
      refine wi_allM (rn_V (rest := []) (ci := 3) hx hb hml hown hT hl.1 hC hS hP hD 0 rfl rfl rfl ck_X5_141 (c_X5_full l G cs ts a H.size M L  _ h) ⟨rfl, rfl, (Nat.le_of_ble_eq_true rfl), (Nat.le_of_ble_eq_true rfl)⟩ ⟨Nat.le_refl _, Nat.le_refl _⟩ rfl rfl (Nat.le_of_ble_eq_true rfl) dX5_type_28) hD hS hA (fun r4 M5 L6 H locs hP hD hS h => ?_)
      exact rt_Wi hx hb hr hlk dX5_type_31 (M5, L6) hP hD hS h
  · have h := h.2 ct
    refine lv_aload_n hx hb dX5_type_12 rfl (lv_at hl 0 rfl) ?_
    refine wi_allM (rn_V (rest := []) (ci := 3) hx hb hml hown hT hl.1 hC hS hP hD 0 rfl rfl rfl ck_X5_110 (c_X5_bad l G cs ts a H.size M L  _ h) ⟨rfl, rfl, (Nat.le_of_ble_eq_true rfl), (Nat.le_of_ble_eq_true rfl)⟩ ⟨Nat.le_refl _, Nat.le_refl _⟩ rfl rfl (Nat.le_of_ble_eq_true rfl) dX5_type_13) hD hS hA (fun r7 M8 L9 H locs hP hD hS h => ?_)
    exact rt_Wi hx hb hr hlk dX5_type_16 (M8, L9) hP hD hS h
abbrev rm_X5_clear : Room := { frames := 0, cells := 0, slots := 0, locals := 0 }
set_option maxRecDepth 100000 in
set_option maxHeartbeats 4000000 in
theorem c_X5_clear (l : Launch) (G : va_G) (cs ts : Nat → Nat) (a : Nat → Nat) (sz : Nat)  (M : ZI) (L : ZL)    (post : Int32 → ZI → ZL → Prop) (h : w_X5_clear M L post) : Met l yX5_clear [.code yX5_clear cX5_clear 2 (some .int)] rm_X5_clear (va_Pc [.ref (a 99)] (CP G cs ts (mdW a cs M L) sz)) (va_Qi (fun (r : Int32) (u : ZI × ZL) => post r u.1 u.2) (CB G (va_A (mdW a cs M L) sz) (fun u => (mdW a cs u.1 u.2))) (va_A (mdW a cs M L) sz)) 0 0 (va_A (mdW a cs M L) sz) := by
  refine ax_W (Qc := fun A => va_Qi (fun (r : Int32) (u : ZI × ZL) => post r u.1 u.2) (CB G A (fun u => (mdW a cs u.1 u.2))) A) (by decide) (Nat.le_of_ble_eq_true rfl) sz ?_
  intro p e s m args below meth c A hx hb hr hlk hml hown hT hC hnm H locs hP hD hS ls hl
  have hK := hC.2.1
  have hA := hC.2.2
  have hl : lv_has ls 2 [(0, .ref (a 99))] := hl
  unfold w_X5_clear at h
  refine lv_aload_n hx hb dX5_clear_0 rfl (lv_at hl 0 rfl) ?_
  refine gf_X5_138 hx hb hT hown hK hP 0 rfl rfl dX5_clear_1 ?_
  refine lv_topi (fun v1 ev1 => ?_)
  have h := h v1 ev1
  refine lv_istore_n (lv' := [(1, .int v1), (0, .ref (a 99))]) hx hb dX5_clear_4 rfl hl (by decide) rfl (fun ls hl => ?_)
  refine lv_aload_n hx hb dX5_clear_5 rfl (lv_at hl 1 rfl) ?_
  refine lv_iconst (v := 0) hx hb dX5_clear_6 (by decide) ?_
  refine pf_X5_138 hx hb hT hown hK hP hD hS 0 rfl (Nat.le_of_ble_eq_true rfl) dX5_clear_7 (fun H locs hP hD hS => ?_)
  obtain ⟨M2, eM2⟩ : ∃ z : ZI, z = mu M 8 0 0 := ⟨_, rfl⟩
  have h := h M2 eM2
  have hP : va_P G vwCl (mdW a cs M2 L) H := by rw [eM2]; exact hP
  have hD : va_D A (mdW a cs M2 L) := by rw [eM2]; exact hD
  refine lv_iload_n hx hb dX5_clear_10 rfl (lv_at hl 0 rfl) ?_
  exact rt_Wi hx hb hr hlk dX5_clear_11 (M2, L) hP hD hS h
abbrev rm_X5_byteAt : Room := { frames := 0, cells := 0, slots := 0, locals := 0 }
set_option maxRecDepth 100000 in
set_option maxHeartbeats 4000000 in
theorem c_X5_byteAt (l : Launch) (G : va_G) (cs ts : Nat → Nat) (a : Nat → Nat) (sz : Nat)  (M : ZI) (L : ZL)   (x1 : Int32) (post : Int32 → ZI → ZL → Prop) (h : w_X5_byteAt M L x1 post) : Met l yX5_byteAt [.code yX5_byteAt cX5_byteAt 2 (some .int)] rm_X5_byteAt (va_Pc [.ref (a 99), .int x1] (CP G cs ts (mdW a cs M L) sz)) (va_Qi (fun (r : Int32) (u : ZI × ZL) => post r u.1 u.2) (CB G (va_A (mdW a cs M L) sz) (fun u => (mdW a cs u.1 u.2))) (va_A (mdW a cs M L) sz)) 0 0 (va_A (mdW a cs M L) sz) := by
  refine ax_W (Qc := fun A => va_Qi (fun (r : Int32) (u : ZI × ZL) => post r u.1 u.2) (CB G A (fun u => (mdW a cs u.1 u.2))) A) (by decide) (Nat.le_of_ble_eq_true rfl) sz ?_
  intro p e s m args below meth c A hx hb hr hlk hml hown hT hC hnm H locs hP hD hS ls hl
  have hK := hC.2.1
  have hA := hC.2.2
  have hl : lv_has ls 2 [(0, .ref (a 99)), (1, .int x1)] := hl
  unfold w_X5_byteAt at h
  refine lv_iload_n hx hb dX5_byteAt_0 rfl (lv_at hl 1 rfl) ?_
  refine lv_aload_n hx hb dX5_byteAt_1 rfl (lv_at hl 0 rfl) ?_
  refine gf_X5_138 hx hb hT hown hK hP 0 rfl rfl dX5_byteAt_2 ?_
  refine lv_icmp_ge (tgt := 17) hx hb dX5_byteAt_5 (by decide) (fun ct => ?_) (fun ct => ?_)
  · have h := h.1 ct
    refine lv_iconst (v := (-1)) hx hb dX5_byteAt_17 (by decide) ?_
    exact rt_Wi hx hb hr hlk dX5_byteAt_18 (M, L) hP hD hS h
  · have h := h.2 ct
    refine lv_aload_n hx hb dX5_byteAt_8 rfl (lv_at hl 0 rfl) ?_
    refine gf_X5_26 hx hb hT hown hK hP 0 rfl rfl dX5_byteAt_9 ?_
    refine lv_iload_n hx hb dX5_byteAt_12 rfl (lv_at hl 1 rfl) ?_
    obtain ⟨hi, h⟩ := h
    refine va_iald hx hb hK hP 5 0 rfl rfl hi dX5_byteAt_13 ?_
    refine lv_goto (tgt := 18) hx hb dX5_byteAt_14 (by decide) ?_
    exact rt_Wi hx hb hr hlk dX5_byteAt_18 (M, L) hP hD hS h
abbrev rm_X5_nextToken : Room := { frames := 1, cells := 0, slots := 0, locals := 25 }
set_option maxRecDepth 100000 in
set_option maxHeartbeats 4000000 in
theorem c_X5_nextToken (l : Launch) (G : va_G) (cs ts : Nat → Nat) (a : Nat → Nat) (sz : Nat)  (M : ZI) (L : ZL)    (post : ZI → ZL → Prop) (h : w_X5_nextToken M L post) : Met l yX5_nextToken [.code yX5_nextToken cX5_nextToken 1 none] rm_X5_nextToken (va_Pc [.ref (a 99)] (CP G cs ts (mdW a cs M L) sz)) (va_Qv (fun (u : ZI × ZL) => post u.1 u.2) (CB G (va_A (mdW a cs M L) sz) (fun u => (mdW a cs u.1 u.2))) (va_A (mdW a cs M L) sz)) 0 0 (va_A (mdW a cs M L) sz) := by
  refine ax_W (Qc := fun A => va_Qv (fun (u : ZI × ZL) => post u.1 u.2) (CB G A (fun u => (mdW a cs u.1 u.2))) A) (by decide) (Nat.le_of_ble_eq_true rfl) sz ?_
  intro p e s m args below meth c A hx hb hr hlk hml hown hT hC hnm H locs hP hD hS ls hl
  have hK := hC.2.1
  have hA := hC.2.2
  have hl : lv_has ls 1 [(0, .ref (a 99))] := hl
  unfold w_X5_nextToken at h
  have HL0 : ∀ (K : ZI → ZL → Prop), (∀ (Mv : ZI) (Lv : ZL) , K Mv Lv → ∀ (H : Heap) (locs : List Loc), va_P G vwCl (mdW a cs Mv Lv) H → va_D A (mdW a cs Mv Lv) → va_S A s.heap H locs → ∀ ls : Array Slot, lv_has ls 1 [(0, .ref (a 99))] → W p l e rm_X5_nextToken s m args below meth c H locs 0 0 (MQ below (va_Qv (fun (u : ZI × ZL) => post u.1 u.2) (CB G A (fun u => (mdW a cs u.1 u.2))) A) args s 0 0 A) (F0 m 26 ls [])) → ∀ (n : Nat) (Mv : ZI) (Lv : ZL) , itF (w_X5_nextToken_L0  post K) (fun _ _ => False) n Mv Lv → ∀ (H : Heap) (locs : List Loc), va_P G vwCl (mdW a cs Mv Lv) H → va_D A (mdW a cs Mv Lv) → va_S A s.heap H locs → ∀ ls : Array Slot, lv_has ls 1 [(0, .ref (a 99))] → W p l e rm_X5_nextToken s m args below meth c H locs 0 0 (MQ below (va_Qv (fun (u : ZI × ZL) => post u.1 u.2) (CB G A (fun u => (mdW a cs u.1 u.2))) A) args s 0 0 A) (F0 m 0 ls []) := by
    intro K hKK n
    induction n with
    | zero =>
      intro Mv Lv h
      exact absurd h id
    | succ n ih =>
      intro Mv Lv h H locs hP hD hS ls hl
      have h : w_X5_nextToken_L0  post K (itF (w_X5_nextToken_L0  post K) (fun _ _ => False) n) Mv Lv := h
      generalize itF (w_X5_nextToken_L0  post K) (fun _ _ => False) n = rec at h ih
      unfold w_X5_nextToken_L0 at h
      refine lv_aload_n hx hb dX5_nextToken_0 rfl (lv_at hl 0 rfl) ?_
      refine lv_aload_n hx hb dX5_nextToken_1 rfl (lv_at hl 0 rfl) ?_
      refine gf_X5_144 hx hb hT hown hK hP 0 rfl rfl dX5_nextToken_2 ?_
      refine wi_allM (rn_V (rest := []) (ci := 3) hx hb hml hown hT hl.1 hC hS hP hD 0 rfl rfl rfl ck_X5_147 (c_X5_byteAt l G cs ts a H.size Mv Lv (Mv 9 0) _ h) ⟨rfl, rfl, (Nat.le_of_ble_eq_true rfl), (Nat.le_of_ble_eq_true rfl)⟩ ⟨Nat.le_refl _, Nat.le_refl _⟩ rfl rfl (Nat.le_of_ble_eq_true rfl) dX5_nextToken_5) hD hS hA (fun r1 M2 L3 H locs hP hD hS h => ?_)
      refine lv_bipush (v := 32) hx hb dX5_nextToken_8 (by decide) ?_
      refine lv_icmp_ne (tgt := 26) hx hb dX5_nextToken_10 (by decide) (fun ct => ?_) (fun ct => ?_)
      · have h := h.1 ct
        exact hKK _ _ h _ _ hP hD hS ls (lv_sub hl [0] rfl)
      · have h := h.2 ct
        refine lv_aload_n hx hb dX5_nextToken_13 rfl (lv_at hl 0 rfl) ?_
        refine lv_dup hx hb dX5_nextToken_14 rfl ?_
        refine gf_X5_144 hx hb hT hown hK hP 0 rfl rfl dX5_nextToken_15 ?_
        refine lv_iconst (v := 1) hx hb dX5_nextToken_18 (by decide) ?_
        refine lv_iadd hx hb dX5_nextToken_19 ?_
        refine pf_X5_144 hx hb hT hown hK hP hD hS 0 rfl (Nat.le_of_ble_eq_true rfl) dX5_nextToken_20 (fun H locs hP hD hS => ?_)
        obtain ⟨M4, eM4⟩ : ∃ z : ZI, z = mu M2 9 0 ((M2 9 0) + 1) := ⟨_, rfl⟩
        have h := h M4 eM4
        have hP : va_P G vwCl (mdW a cs M4 L3) H := by rw [eM4]; exact hP
        have hD : va_D A (mdW a cs M4 L3) := by rw [eM4]; exact hD
        refine lv_goto (tgt := 0) hx hb dX5_nextToken_23 (by decide) ?_
        exact ih _ _ h _ _ hP hD hS ls (lv_sub hl [0] rfl)
  have HL106 : ∀ (K : ZI → ZL → Prop), (∀ (Mv : ZI) (Lv : ZL) , K Mv Lv → ∀ (H : Heap) (locs : List Loc), va_P G vwCl (mdW a cs Mv Lv) H → va_D A (mdW a cs Mv Lv) → va_S A s.heap H locs → ∀ ls : Array Slot, lv_has ls 1 [(0, .ref (a 99))] → W p l e rm_X5_nextToken s m args below meth c H locs 0 0 (MQ below (va_Qv (fun (u : ZI × ZL) => post u.1 u.2) (CB G A (fun u => (mdW a cs u.1 u.2))) A) args s 0 0 A) (F0 m 193 ls [])) → ∀ (n : Nat) (Mv : ZI) (Lv : ZL) , itF (w_X5_nextToken_L106  post K) (fun _ _ => False) n Mv Lv → ∀ (H : Heap) (locs : List Loc), va_P G vwCl (mdW a cs Mv Lv) H → va_D A (mdW a cs Mv Lv) → va_S A s.heap H locs → ∀ ls : Array Slot, lv_has ls 1 [(0, .ref (a 99))] → W p l e rm_X5_nextToken s m args below meth c H locs 0 0 (MQ below (va_Qv (fun (u : ZI × ZL) => post u.1 u.2) (CB G A (fun u => (mdW a cs u.1 u.2))) A) args s 0 0 A) (F0 m 106 ls []) := by
    intro K hKK n
    induction n with
    | zero =>
      intro Mv Lv h
      exact absurd h id
    | succ n ih =>
      intro Mv Lv h H locs hP hD hS ls hl
      have h : w_X5_nextToken_L106  post K (itF (w_X5_nextToken_L106  post K) (fun _ _ => False) n) Mv Lv := h
      generalize itF (w_X5_nextToken_L106  post K) (fun _ _ => False) n = rec at h ih
      unfold w_X5_nextToken_L106 at h
      refine lv_aload_n hx hb dX5_nextToken_106 rfl (lv_at hl 0 rfl) ?_
      refine lv_aload_n hx hb dX5_nextToken_107 rfl (lv_at hl 0 rfl) ?_
      refine gf_X5_144 hx hb hT hown hK hP 0 rfl rfl dX5_nextToken_108 ?_
      refine wi_allM (rn_V (rest := []) (ci := 3) hx hb hml hown hT hl.1 hC hS hP hD 0 rfl rfl rfl ck_X5_147 (c_X5_byteAt l G cs ts a H.size Mv Lv (Mv 9 0) _ h) ⟨rfl, rfl, (Nat.le_of_ble_eq_true rfl), (Nat.le_of_ble_eq_true rfl)⟩ ⟨Nat.le_refl _, Nat.le_refl _⟩ rfl rfl (Nat.le_of_ble_eq_true rfl) dX5_nextToken_111) hD hS hA (fun r14 M15 L16 H locs hP hD hS h => ?_)
      refine lv_i2l (v := r14.toInt64) hx hb dX5_nextToken_114 rfl ?_
      refine ki_X5_163 hx hb hT hown dX5_nextToken_115 ?_
      refine ki_X5_165 hx hb hT hown dX5_nextToken_118 ?_
      refine cl_Si (rn_S (rest := []) hx hb hml hown hT hl.1 ck_X5_54 (c_X5_in l r14.toInt64 48 57 _ h) ⟨rfl, rfl, (Nat.le_of_ble_eq_true rfl), (Nat.le_of_ble_eq_true rfl)⟩ ⟨Nat.zero_le _, Nat.zero_le _⟩ rfl rfl (Nat.le_of_ble_eq_true rfl) dX5_nextToken_121) (fun r17 h => ?_)
      refine lv_if_eq (tgt := 193) hx hb dX5_nextToken_124 (by decide) (fun ct => ?_) (fun ct => ?_)
      · have h := h.1 ct
        exact hKK _ _ h _ _ hP hD hS ls (lv_sub hl [0] rfl)
      · have h := h.2 ct
        refine lv_aload_n hx hb dX5_nextToken_127 rfl (lv_at hl 0 rfl) ?_
        refine gf_X5_156 hx hb hT hown hK hP 0 rfl rfl dX5_nextToken_128 ?_
        refine lv_iconst (v := 1) hx hb dX5_nextToken_131 (by decide) ?_
        refine lv_icmp_eq (tgt := 193) hx hb dX5_nextToken_132 (by decide) (fun ct => ?_) (fun ct => ?_)
        · have h := h.1 ct
          exact hKK _ _ h _ _ hP hD hS ls (lv_sub hl [0] rfl)
        · have h := h.2 ct
          refine lv_aload_n hx hb dX5_nextToken_135 rfl (lv_at hl 0 rfl) ?_
          refine lv_iconst (v := 2) hx hb dX5_nextToken_136 (by decide) ?_
          refine pf_X5_156 hx hb hT hown hK hP hD hS 0 rfl (Nat.le_of_ble_eq_true rfl) dX5_nextToken_137 (fun H locs hP hD hS => ?_)
          obtain ⟨M18, eM18⟩ : ∃ z : ZI, z = mu M15 10 0 2 := ⟨_, rfl⟩
          have h := h M18 eM18
          have hP : va_P G vwCl (mdW a cs M18 L16) H := by rw [eM18]; exact hP
          have hD : va_D A (mdW a cs M18 L16) := by rw [eM18]; exact hD
          refine lv_aload_n hx hb dX5_nextToken_140 rfl (lv_at hl 0 rfl) ?_
          refine lv_aload_n hx hb dX5_nextToken_141 rfl (lv_at hl 0 rfl) ?_
          refine gf_X5_153 hx hb hT hown hK hP 0 rfl rfl dX5_nextToken_142 ?_
          refine lv_bipush (v := 99) hx hb dX5_nextToken_145 (by decide) ?_
          refine lv_icmp_le (tgt := 157) hx hb dX5_nextToken_147 (by decide) (fun ct => ?_) (fun ct => ?_)
          · have h := h.1 ct
            refine lv_bipush (v := 10) hx hb dX5_nextToken_157 (by decide) ?_
            refine lv_aload_n hx hb dX5_nextToken_159 rfl (lv_at hl 0 rfl) ?_
            refine gf_X5_153 hx hb hT hown hK hP 0 rfl rfl dX5_nextToken_160 ?_
            refine lv_imul hx hb dX5_nextToken_163 ?_
            refine lv_aload_n hx hb dX5_nextToken_164 rfl (lv_at hl 0 rfl) ?_
            refine gf_X5_26 hx hb hT hown hK hP 0 rfl rfl dX5_nextToken_165 ?_
            refine lv_aload_n hx hb dX5_nextToken_168 rfl (lv_at hl 0 rfl) ?_
            refine gf_X5_144 hx hb hT hown hK hP 0 rfl rfl dX5_nextToken_169 ?_
            obtain ⟨hi, h⟩ := h
            refine va_iald hx hb hK hP 5 0 rfl rfl hi dX5_nextToken_172 ?_
            refine lv_iadd hx hb dX5_nextToken_173 ?_
            refine lv_bipush (v := 48) hx hb dX5_nextToken_174 (by decide) ?_
            refine lv_isub hx hb dX5_nextToken_176 ?_
            refine pf_X5_153 hx hb hT hown hK hP hD hS 0 rfl (Nat.le_of_ble_eq_true rfl) dX5_nextToken_177 (fun H locs hP hD hS => ?_)
            obtain ⟨M19, eM19⟩ : ∃ z : ZI, z = mu M18 11 0 (((10 * (M18 11 0)) + (M18 7 (M18 9 0).toNatClampNeg)) - 48) := ⟨_, rfl⟩
            have h := h M19 eM19
            have hP : va_P G vwCl (mdW a cs M19 L16) H := by rw [eM19]; exact hP
            have hD : va_D A (mdW a cs M19 L16) := by rw [eM19]; exact hD
            refine lv_aload_n hx hb dX5_nextToken_180 rfl (lv_at hl 0 rfl) ?_
            refine lv_dup hx hb dX5_nextToken_181 rfl ?_
            refine gf_X5_144 hx hb hT hown hK hP 0 rfl rfl dX5_nextToken_182 ?_
            refine lv_iconst (v := 1) hx hb dX5_nextToken_185 (by decide) ?_
            refine lv_iadd hx hb dX5_nextToken_186 ?_
            refine pf_X5_144 hx hb hT hown hK hP hD hS 0 rfl (Nat.le_of_ble_eq_true rfl) dX5_nextToken_187 (fun H locs hP hD hS => ?_)
            obtain ⟨M20, eM20⟩ : ∃ z : ZI, z = mu M19 9 0 ((M19 9 0) + 1) := ⟨_, rfl⟩
            have h := h M20 eM20
            have hP : va_P G vwCl (mdW a cs M20 L16) H := by rw [eM20]; exact hP
            have hD : va_D A (mdW a cs M20 L16) := by rw [eM20]; exact hD
            refine lv_goto (tgt := 106) hx hb dX5_nextToken_190 (by decide) ?_
            exact ih _ _ h _ _ hP hD hS ls (lv_sub hl [0] rfl)
          · have h := h.2 ct
            refine lv_aload_n hx hb dX5_nextToken_150 rfl (lv_at hl 0 rfl) ?_
            refine gf_X5_153 hx hb hT hown hK hP 0 rfl rfl dX5_nextToken_151 ?_
            refine lv_goto (tgt := 177) hx hb dX5_nextToken_154 (by decide) ?_
            refine pf_X5_153 hx hb hT hown hK hP hD hS 0 rfl (Nat.le_of_ble_eq_true rfl) dX5_nextToken_177 (fun H locs hP hD hS => ?_)
            obtain ⟨M21, eM21⟩ : ∃ z : ZI, z = mu M18 11 0 (M18 11 0) := ⟨_, rfl⟩
            have h := h M21 eM21
            have hP : va_P G vwCl (mdW a cs M21 L16) H := by rw [eM21]; exact hP
            have hD : va_D A (mdW a cs M21 L16) := by rw [eM21]; exact hD
            refine lv_aload_n hx hb dX5_nextToken_180 rfl (lv_at hl 0 rfl) ?_
            refine lv_dup hx hb dX5_nextToken_181 rfl ?_
            refine gf_X5_144 hx hb hT hown hK hP 0 rfl rfl dX5_nextToken_182 ?_
            refine lv_iconst (v := 1) hx hb dX5_nextToken_185 (by decide) ?_
            refine lv_iadd hx hb dX5_nextToken_186 ?_
            refine pf_X5_144 hx hb hT hown hK hP hD hS 0 rfl (Nat.le_of_ble_eq_true rfl) dX5_nextToken_187 (fun H locs hP hD hS => ?_)
            obtain ⟨M22, eM22⟩ : ∃ z : ZI, z = mu M21 9 0 ((M21 9 0) + 1) := ⟨_, rfl⟩
            have h := h M22 eM22
            have hP : va_P G vwCl (mdW a cs M22 L16) H := by rw [eM22]; exact hP
            have hD : va_D A (mdW a cs M22 L16) := by rw [eM22]; exact hD
            refine lv_goto (tgt := 106) hx hb dX5_nextToken_190 (by decide) ?_
            exact ih _ _ h _ _ hP hD hS ls (lv_sub hl [0] rfl)
  have HL59 : ∀ (K : ZI → ZL → Prop), (∀ (Mv : ZI) (Lv : ZL) , K Mv Lv → ∀ (H : Heap) (locs : List Loc), va_P G vwCl (mdW a cs Mv Lv) H → va_D A (mdW a cs Mv Lv) → va_S A s.heap H locs → ∀ ls : Array Slot, lv_has ls 1 [(0, .ref (a 99))] → W p l e rm_X5_nextToken s m args below meth c H locs 0 0 (MQ below (va_Qv (fun (u : ZI × ZL) => post u.1 u.2) (CB G A (fun u => (mdW a cs u.1 u.2))) A) args s 0 0 A) (F0 m 106 ls [])) → ∀ (n : Nat) (Mv : ZI) (Lv : ZL) , itF (w_X5_nextToken_L59  post K) (fun _ _ => False) n Mv Lv → ∀ (H : Heap) (locs : List Loc), va_P G vwCl (mdW a cs Mv Lv) H → va_D A (mdW a cs Mv Lv) → va_S A s.heap H locs → ∀ ls : Array Slot, lv_has ls 1 [(0, .ref (a 99))] → W p l e rm_X5_nextToken s m args below meth c H locs 0 0 (MQ below (va_Qv (fun (u : ZI × ZL) => post u.1 u.2) (CB G A (fun u => (mdW a cs u.1 u.2))) A) args s 0 0 A) (F0 m 59 ls []) := by
    intro K hKK n
    induction n with
    | zero =>
      intro Mv Lv h
      exact absurd h id
    | succ n ih =>
      intro Mv Lv h H locs hP hD hS ls hl
      have h : w_X5_nextToken_L59  post K (itF (w_X5_nextToken_L59  post K) (fun _ _ => False) n) Mv Lv := h
      generalize itF (w_X5_nextToken_L59  post K) (fun _ _ => False) n = rec at h ih
      unfold w_X5_nextToken_L59 at h
      refine lv_aload_n hx hb dX5_nextToken_59 rfl (lv_at hl 0 rfl) ?_
      refine lv_aload_n hx hb dX5_nextToken_60 rfl (lv_at hl 0 rfl) ?_
      refine gf_X5_144 hx hb hT hown hK hP 0 rfl rfl dX5_nextToken_61 ?_
      refine wi_allM (rn_V (rest := []) (ci := 3) hx hb hml hown hT hl.1 hC hS hP hD 0 rfl rfl rfl ck_X5_147 (c_X5_byteAt l G cs ts a H.size Mv Lv (Mv 9 0) _ h) ⟨rfl, rfl, (Nat.le_of_ble_eq_true rfl), (Nat.le_of_ble_eq_true rfl)⟩ ⟨Nat.le_refl _, Nat.le_refl _⟩ rfl rfl (Nat.le_of_ble_eq_true rfl) dX5_nextToken_64) hD hS hA (fun r10 M11 L12 H locs hP hD hS h => ?_)
      refine lv_i2l (v := r10.toInt64) hx hb dX5_nextToken_67 rfl ?_
      refine ki_X5_159 hx hb hT hown dX5_nextToken_68 ?_
      refine ki_X5_161 hx hb hT hown dX5_nextToken_71 ?_
      refine cl_Si (rn_S (rest := []) hx hb hml hown hT hl.1 ck_X5_54 (c_X5_in l r10.toInt64 97 122 _ h) ⟨rfl, rfl, (Nat.le_of_ble_eq_true rfl), (Nat.le_of_ble_eq_true rfl)⟩ ⟨Nat.zero_le _, Nat.zero_le _⟩ rfl rfl (Nat.le_of_ble_eq_true rfl) dX5_nextToken_74) (fun r13 h => ?_)
      refine lv_if_eq (tgt := 106) hx hb dX5_nextToken_77 (by decide) (fun ct => ?_) (fun ct => ?_)
      · have h := h.1 ct
        obtain ⟨n40, h⟩ := h
        refine HL106  _ (fun M23 L24 h H locs hP hD hS ls hl => ?_) n40 _ _ h _ _ hP hD hS ls (lv_sub hl [0] rfl)
        refine lv_aload_n hx hb dX5_nextToken_193 rfl (lv_at hl 0 rfl) ?_
        refine gf_X5_156 hx hb hT hown hK hP 0 rfl rfl dX5_nextToken_194 ?_
        refine lv_iconst (v := 2) hx hb dX5_nextToken_197 (by decide) ?_
        refine lv_icmp_ne (tgt := 222) hx hb dX5_nextToken_198 (by decide) (fun ct => ?_) (fun ct => ?_)
        · have h := h.1 ct
          refine lv_aload_n hx hb dX5_nextToken_222 rfl (lv_at hl 0 rfl) ?_
          refine gf_X5_156 hx hb hT hown hK hP 0 rfl rfl dX5_nextToken_223 ?_
          refine lv_if_ne (tgt := 261) hx hb dX5_nextToken_226 (by decide) (fun ct => ?_) (fun ct => ?_)
          · have h := h.1 ct
            exact rt_Wv hx hb hr hlk dX5_nextToken_261 (M23, L24) hP hD hS h
          · have h := h.2 ct
            refine lv_aload_n hx hb dX5_nextToken_229 rfl (lv_at hl 0 rfl) ?_
            refine lv_aload_n hx hb dX5_nextToken_230 rfl (lv_at hl 0 rfl) ?_
            refine lv_aload_n hx hb dX5_nextToken_231 rfl (lv_at hl 0 rfl) ?_
            refine gf_X5_144 hx hb hT hown hK hP 0 rfl rfl dX5_nextToken_232 ?_
            refine wi_allM (rn_V (rest := [.ref (a 99)]) (ci := 3) hx hb hml hown hT hl.1 hC hS hP hD 0 rfl rfl rfl ck_X5_147 (c_X5_byteAt l G cs ts a H.size M23 L24 (M23 9 0) _ h) ⟨rfl, rfl, (Nat.le_of_ble_eq_true rfl), (Nat.le_of_ble_eq_true rfl)⟩ ⟨Nat.le_refl _, Nat.le_refl _⟩ rfl rfl (Nat.le_of_ble_eq_true rfl) dX5_nextToken_235) hD hS hA (fun r25 M26 L27 H locs hP hD hS h => ?_)
            refine lv_bipush (v := 59) hx hb dX5_nextToken_238 (by decide) ?_
            refine lv_icmp_ne (tgt := 247) hx hb dX5_nextToken_240 (by decide) (fun ct => ?_) (fun ct => ?_)
            · have h := h.1 ct
              refine lv_iconst (v := 0) hx hb dX5_nextToken_247 (by decide) ?_
              refine pf_X5_156 hx hb hT hown hK hP hD hS 0 rfl (Nat.le_of_ble_eq_true rfl) dX5_nextToken_248 (fun H locs hP hD hS => ?_)
              obtain ⟨M28, eM28⟩ : ∃ z : ZI, z = mu M26 10 0 0 := ⟨_, rfl⟩
              have h := h M28 eM28
              have hP : va_P G vwCl (mdW a cs M28 L27) H := by rw [eM28]; exact hP
              have hD : va_D A (mdW a cs M28 L27) := by rw [eM28]; exact hD
              refine lv_aload_n hx hb dX5_nextToken_251 rfl (lv_at hl 0 rfl) ?_
              refine lv_dup hx hb dX5_nextToken_252 rfl ?_
              refine gf_X5_144 hx hb hT hown hK hP 0 rfl rfl dX5_nextToken_253 ?_
              refine lv_iconst (v := 1) hx hb dX5_nextToken_256 (by decide) ?_
              refine lv_iadd hx hb dX5_nextToken_257 ?_
              refine pf_X5_144 hx hb hT hown hK hP hD hS 0 rfl (Nat.le_of_ble_eq_true rfl) dX5_nextToken_258 (fun H locs hP hD hS => ?_)
              obtain ⟨M29, eM29⟩ : ∃ z : ZI, z = mu M28 9 0 ((M28 9 0) + 1) := ⟨_, rfl⟩
              have h := h M29 eM29
              have hP : va_P G vwCl (mdW a cs M29 L27) H := by rw [eM29]; exact hP
              have hD : va_D A (mdW a cs M29 L27) := by rw [eM29]; exact hD
              exact rt_Wv hx hb hr hlk dX5_nextToken_261 (M29, L27) hP hD hS h
            · have h := h.2 ct
              refine lv_iconst (v := 4) hx hb dX5_nextToken_243 (by decide) ?_
              refine lv_goto (tgt := 248) hx hb dX5_nextToken_244 (by decide) ?_
              refine pf_X5_156 hx hb hT hown hK hP hD hS 0 rfl (Nat.le_of_ble_eq_true rfl) dX5_nextToken_248 (fun H locs hP hD hS => ?_)
              obtain ⟨M30, eM30⟩ : ∃ z : ZI, z = mu M26 10 0 4 := ⟨_, rfl⟩
              have h := h M30 eM30
              have hP : va_P G vwCl (mdW a cs M30 L27) H := by rw [eM30]; exact hP
              have hD : va_D A (mdW a cs M30 L27) := by rw [eM30]; exact hD
              refine lv_aload_n hx hb dX5_nextToken_251 rfl (lv_at hl 0 rfl) ?_
              refine lv_dup hx hb dX5_nextToken_252 rfl ?_
              refine gf_X5_144 hx hb hT hown hK hP 0 rfl rfl dX5_nextToken_253 ?_
              refine lv_iconst (v := 1) hx hb dX5_nextToken_256 (by decide) ?_
              refine lv_iadd hx hb dX5_nextToken_257 ?_
              refine pf_X5_144 hx hb hT hown hK hP hD hS 0 rfl (Nat.le_of_ble_eq_true rfl) dX5_nextToken_258 (fun H locs hP hD hS => ?_)
              obtain ⟨M31, eM31⟩ : ∃ z : ZI, z = mu M30 9 0 ((M30 9 0) + 1) := ⟨_, rfl⟩
              have h := h M31 eM31
              have hP : va_P G vwCl (mdW a cs M31 L27) H := by rw [eM31]; exact hP
              have hD : va_D A (mdW a cs M31 L27) := by rw [eM31]; exact hD
              exact rt_Wv hx hb hr hlk dX5_nextToken_261 (M31, L27) hP hD hS h
        · have h := h.2 ct
          refine lv_aload_n hx hb dX5_nextToken_201 rfl (lv_at hl 0 rfl) ?_
          refine gf_X5_144 hx hb hT hown hK hP 0 rfl rfl dX5_nextToken_202 ?_
          refine lv_aload_n hx hb dX5_nextToken_205 rfl (lv_at hl 0 rfl) ?_
          refine gf_X5_150 hx hb hT hown hK hP 0 rfl rfl dX5_nextToken_206 ?_
          refine lv_isub hx hb dX5_nextToken_209 ?_
          refine lv_iconst (v := 2) hx hb dX5_nextToken_210 (by decide) ?_
          refine lv_icmp_le (tgt := 222) hx hb dX5_nextToken_211 (by decide) (fun ct => ?_) (fun ct => ?_)
          · have h := h.1 ct
            refine lv_aload_n hx hb dX5_nextToken_222 rfl (lv_at hl 0 rfl) ?_
            refine gf_X5_156 hx hb hT hown hK hP 0 rfl rfl dX5_nextToken_223 ?_
            refine lv_if_ne (tgt := 261) hx hb dX5_nextToken_226 (by decide) (fun ct => ?_) (fun ct => ?_)
            · have h := h.1 ct
              exact rt_Wv hx hb hr hlk dX5_nextToken_261 (M23, L24) hP hD hS h
            · have h := h.2 ct
              refine lv_aload_n hx hb dX5_nextToken_229 rfl (lv_at hl 0 rfl) ?_
              refine lv_aload_n hx hb dX5_nextToken_230 rfl (lv_at hl 0 rfl) ?_
              refine lv_aload_n hx hb dX5_nextToken_231 rfl (lv_at hl 0 rfl) ?_
              refine gf_X5_144 hx hb hT hown hK hP 0 rfl rfl dX5_nextToken_232 ?_
              refine wi_allM (rn_V (rest := [.ref (a 99)]) (ci := 3) hx hb hml hown hT hl.1 hC hS hP hD 0 rfl rfl rfl ck_X5_147 (c_X5_byteAt l G cs ts a H.size M23 L24 (M23 9 0) _ h) ⟨rfl, rfl, (Nat.le_of_ble_eq_true rfl), (Nat.le_of_ble_eq_true rfl)⟩ ⟨Nat.le_refl _, Nat.le_refl _⟩ rfl rfl (Nat.le_of_ble_eq_true rfl) dX5_nextToken_235) hD hS hA (fun r32 M33 L34 H locs hP hD hS h => ?_)
              refine lv_bipush (v := 59) hx hb dX5_nextToken_238 (by decide) ?_
              refine lv_icmp_ne (tgt := 247) hx hb dX5_nextToken_240 (by decide) (fun ct => ?_) (fun ct => ?_)
              · have h := h.1 ct
                refine lv_iconst (v := 0) hx hb dX5_nextToken_247 (by decide) ?_
                refine pf_X5_156 hx hb hT hown hK hP hD hS 0 rfl (Nat.le_of_ble_eq_true rfl) dX5_nextToken_248 (fun H locs hP hD hS => ?_)
                obtain ⟨M35, eM35⟩ : ∃ z : ZI, z = mu M33 10 0 0 := ⟨_, rfl⟩
                have h := h M35 eM35
                have hP : va_P G vwCl (mdW a cs M35 L34) H := by rw [eM35]; exact hP
                have hD : va_D A (mdW a cs M35 L34) := by rw [eM35]; exact hD
                refine lv_aload_n hx hb dX5_nextToken_251 rfl (lv_at hl 0 rfl) ?_
                refine lv_dup hx hb dX5_nextToken_252 rfl ?_
                refine gf_X5_144 hx hb hT hown hK hP 0 rfl rfl dX5_nextToken_253 ?_
                refine lv_iconst (v := 1) hx hb dX5_nextToken_256 (by decide) ?_
                refine lv_iadd hx hb dX5_nextToken_257 ?_
                refine pf_X5_144 hx hb hT hown hK hP hD hS 0 rfl (Nat.le_of_ble_eq_true rfl) dX5_nextToken_258 (fun H locs hP hD hS => ?_)
                obtain ⟨M36, eM36⟩ : ∃ z : ZI, z = mu M35 9 0 ((M35 9 0) + 1) := ⟨_, rfl⟩
                have h := h M36 eM36
                have hP : va_P G vwCl (mdW a cs M36 L34) H := by rw [eM36]; exact hP
                have hD : va_D A (mdW a cs M36 L34) := by rw [eM36]; exact hD
                exact rt_Wv hx hb hr hlk dX5_nextToken_261 (M36, L34) hP hD hS h
              · have h := h.2 ct
                refine lv_iconst (v := 4) hx hb dX5_nextToken_243 (by decide) ?_
                refine lv_goto (tgt := 248) hx hb dX5_nextToken_244 (by decide) ?_
                refine pf_X5_156 hx hb hT hown hK hP hD hS 0 rfl (Nat.le_of_ble_eq_true rfl) dX5_nextToken_248 (fun H locs hP hD hS => ?_)
                obtain ⟨M37, eM37⟩ : ∃ z : ZI, z = mu M33 10 0 4 := ⟨_, rfl⟩
                have h := h M37 eM37
                have hP : va_P G vwCl (mdW a cs M37 L34) H := by rw [eM37]; exact hP
                have hD : va_D A (mdW a cs M37 L34) := by rw [eM37]; exact hD
                refine lv_aload_n hx hb dX5_nextToken_251 rfl (lv_at hl 0 rfl) ?_
                refine lv_dup hx hb dX5_nextToken_252 rfl ?_
                refine gf_X5_144 hx hb hT hown hK hP 0 rfl rfl dX5_nextToken_253 ?_
                refine lv_iconst (v := 1) hx hb dX5_nextToken_256 (by decide) ?_
                refine lv_iadd hx hb dX5_nextToken_257 ?_
                refine pf_X5_144 hx hb hT hown hK hP hD hS 0 rfl (Nat.le_of_ble_eq_true rfl) dX5_nextToken_258 (fun H locs hP hD hS => ?_)
                obtain ⟨M38, eM38⟩ : ∃ z : ZI, z = mu M37 9 0 ((M37 9 0) + 1) := ⟨_, rfl⟩
                have h := h M38 eM38
                have hP : va_P G vwCl (mdW a cs M38 L34) H := by rw [eM38]; exact hP
                have hD : va_D A (mdW a cs M38 L34) := by rw [eM38]; exact hD
                exact rt_Wv hx hb hr hlk dX5_nextToken_261 (M38, L34) hP hD hS h
          · have h := h.2 ct
            refine lv_aload_n hx hb dX5_nextToken_214 rfl (lv_at hl 0 rfl) ?_
            refine lv_iconst (v := 0) hx hb dX5_nextToken_215 (by decide) ?_
            refine pf_X5_156 hx hb hT hown hK hP hD hS 0 rfl (Nat.le_of_ble_eq_true rfl) dX5_nextToken_216 (fun H locs hP hD hS => ?_)
            obtain ⟨M39, eM39⟩ : ∃ z : ZI, z = mu M23 10 0 0 := ⟨_, rfl⟩
            have h := h M39 eM39
            have hP : va_P G vwCl (mdW a cs M39 L24) H := by rw [eM39]; exact hP
            have hD : va_D A (mdW a cs M39 L24) := by rw [eM39]; exact hD
            refine lv_goto (tgt := 261) hx hb dX5_nextToken_219 (by decide) ?_
            exact rt_Wv hx hb hr hlk dX5_nextToken_261 (M39, L24) hP hD hS h
      · have h := h.2 ct
        refine lv_aload_n hx hb dX5_nextToken_80 rfl (lv_at hl 0 rfl) ?_
        refine gf_X5_156 hx hb hT hown hK hP 0 rfl rfl dX5_nextToken_81 ?_
        refine lv_iconst (v := 2) hx hb dX5_nextToken_84 (by decide) ?_
        refine lv_icmp_ge (tgt := 106) hx hb dX5_nextToken_85 (by decide) (fun ct => ?_) (fun ct => ?_)
        · have h := h.1 ct
          obtain ⟨n58, h⟩ := h
          refine HL106  _ (fun M41 L42 h H locs hP hD hS ls hl => ?_) n58 _ _ h _ _ hP hD hS ls (lv_sub hl [0] rfl)
          refine lv_aload_n hx hb dX5_nextToken_193 rfl (lv_at hl 0 rfl) ?_
          refine gf_X5_156 hx hb hT hown hK hP 0 rfl rfl dX5_nextToken_194 ?_
          refine lv_iconst (v := 2) hx hb dX5_nextToken_197 (by decide) ?_
          refine lv_icmp_ne (tgt := 222) hx hb dX5_nextToken_198 (by decide) (fun ct => ?_) (fun ct => ?_)
          · have h := h.1 ct
            refine lv_aload_n hx hb dX5_nextToken_222 rfl (lv_at hl 0 rfl) ?_
            refine gf_X5_156 hx hb hT hown hK hP 0 rfl rfl dX5_nextToken_223 ?_
            refine lv_if_ne (tgt := 261) hx hb dX5_nextToken_226 (by decide) (fun ct => ?_) (fun ct => ?_)
            · have h := h.1 ct
              exact rt_Wv hx hb hr hlk dX5_nextToken_261 (M41, L42) hP hD hS h
            · have h := h.2 ct
              refine lv_aload_n hx hb dX5_nextToken_229 rfl (lv_at hl 0 rfl) ?_
              refine lv_aload_n hx hb dX5_nextToken_230 rfl (lv_at hl 0 rfl) ?_
              refine lv_aload_n hx hb dX5_nextToken_231 rfl (lv_at hl 0 rfl) ?_
              refine gf_X5_144 hx hb hT hown hK hP 0 rfl rfl dX5_nextToken_232 ?_
              refine wi_allM (rn_V (rest := [.ref (a 99)]) (ci := 3) hx hb hml hown hT hl.1 hC hS hP hD 0 rfl rfl rfl ck_X5_147 (c_X5_byteAt l G cs ts a H.size M41 L42 (M41 9 0) _ h) ⟨rfl, rfl, (Nat.le_of_ble_eq_true rfl), (Nat.le_of_ble_eq_true rfl)⟩ ⟨Nat.le_refl _, Nat.le_refl _⟩ rfl rfl (Nat.le_of_ble_eq_true rfl) dX5_nextToken_235) hD hS hA (fun r43 M44 L45 H locs hP hD hS h => ?_)
              refine lv_bipush (v := 59) hx hb dX5_nextToken_238 (by decide) ?_
              refine lv_icmp_ne (tgt := 247) hx hb dX5_nextToken_240 (by decide) (fun ct => ?_) (fun ct => ?_)
              · have h := h.1 ct
                refine lv_iconst (v := 0) hx hb dX5_nextToken_247 (by decide) ?_
                refine pf_X5_156 hx hb hT hown hK hP hD hS 0 rfl (Nat.le_of_ble_eq_true rfl) dX5_nextToken_248 (fun H locs hP hD hS => ?_)
                obtain ⟨M46, eM46⟩ : ∃ z : ZI, z = mu M44 10 0 0 := ⟨_, rfl⟩
                have h := h M46 eM46
                have hP : va_P G vwCl (mdW a cs M46 L45) H := by rw [eM46]; exact hP
                have hD : va_D A (mdW a cs M46 L45) := by rw [eM46]; exact hD
                refine lv_aload_n hx hb dX5_nextToken_251 rfl (lv_at hl 0 rfl) ?_
                refine lv_dup hx hb dX5_nextToken_252 rfl ?_
                refine gf_X5_144 hx hb hT hown hK hP 0 rfl rfl dX5_nextToken_253 ?_
                refine lv_iconst (v := 1) hx hb dX5_nextToken_256 (by decide) ?_
                refine lv_iadd hx hb dX5_nextToken_257 ?_
                refine pf_X5_144 hx hb hT hown hK hP hD hS 0 rfl (Nat.le_of_ble_eq_true rfl) dX5_nextToken_258 (fun H locs hP hD hS => ?_)
                obtain ⟨M47, eM47⟩ : ∃ z : ZI, z = mu M46 9 0 ((M46 9 0) + 1) := ⟨_, rfl⟩
                have h := h M47 eM47
                have hP : va_P G vwCl (mdW a cs M47 L45) H := by rw [eM47]; exact hP
                have hD : va_D A (mdW a cs M47 L45) := by rw [eM47]; exact hD
                exact rt_Wv hx hb hr hlk dX5_nextToken_261 (M47, L45) hP hD hS h
              · have h := h.2 ct
                refine lv_iconst (v := 4) hx hb dX5_nextToken_243 (by decide) ?_
                refine lv_goto (tgt := 248) hx hb dX5_nextToken_244 (by decide) ?_
                refine pf_X5_156 hx hb hT hown hK hP hD hS 0 rfl (Nat.le_of_ble_eq_true rfl) dX5_nextToken_248 (fun H locs hP hD hS => ?_)
                obtain ⟨M48, eM48⟩ : ∃ z : ZI, z = mu M44 10 0 4 := ⟨_, rfl⟩
                have h := h M48 eM48
                have hP : va_P G vwCl (mdW a cs M48 L45) H := by rw [eM48]; exact hP
                have hD : va_D A (mdW a cs M48 L45) := by rw [eM48]; exact hD
                refine lv_aload_n hx hb dX5_nextToken_251 rfl (lv_at hl 0 rfl) ?_
                refine lv_dup hx hb dX5_nextToken_252 rfl ?_
                refine gf_X5_144 hx hb hT hown hK hP 0 rfl rfl dX5_nextToken_253 ?_
                refine lv_iconst (v := 1) hx hb dX5_nextToken_256 (by decide) ?_
                refine lv_iadd hx hb dX5_nextToken_257 ?_
                refine pf_X5_144 hx hb hT hown hK hP hD hS 0 rfl (Nat.le_of_ble_eq_true rfl) dX5_nextToken_258 (fun H locs hP hD hS => ?_)
                obtain ⟨M49, eM49⟩ : ∃ z : ZI, z = mu M48 9 0 ((M48 9 0) + 1) := ⟨_, rfl⟩
                have h := h M49 eM49
                have hP : va_P G vwCl (mdW a cs M49 L45) H := by rw [eM49]; exact hP
                have hD : va_D A (mdW a cs M49 L45) := by rw [eM49]; exact hD
                exact rt_Wv hx hb hr hlk dX5_nextToken_261 (M49, L45) hP hD hS h
          · have h := h.2 ct
            refine lv_aload_n hx hb dX5_nextToken_201 rfl (lv_at hl 0 rfl) ?_
            refine gf_X5_144 hx hb hT hown hK hP 0 rfl rfl dX5_nextToken_202 ?_
            refine lv_aload_n hx hb dX5_nextToken_205 rfl (lv_at hl 0 rfl) ?_
            refine gf_X5_150 hx hb hT hown hK hP 0 rfl rfl dX5_nextToken_206 ?_
            refine lv_isub hx hb dX5_nextToken_209 ?_
            refine lv_iconst (v := 2) hx hb dX5_nextToken_210 (by decide) ?_
            refine lv_icmp_le (tgt := 222) hx hb dX5_nextToken_211 (by decide) (fun ct => ?_) (fun ct => ?_)
            · have h := h.1 ct
              refine lv_aload_n hx hb dX5_nextToken_222 rfl (lv_at hl 0 rfl) ?_
              refine gf_X5_156 hx hb hT hown hK hP 0 rfl rfl dX5_nextToken_223 ?_
              refine lv_if_ne (tgt := 261) hx hb dX5_nextToken_226 (by decide) (fun ct => ?_) (fun ct => ?_)
              · have h := h.1 ct
                exact rt_Wv hx hb hr hlk dX5_nextToken_261 (M41, L42) hP hD hS h
              · have h := h.2 ct
                refine lv_aload_n hx hb dX5_nextToken_229 rfl (lv_at hl 0 rfl) ?_
                refine lv_aload_n hx hb dX5_nextToken_230 rfl (lv_at hl 0 rfl) ?_
                refine lv_aload_n hx hb dX5_nextToken_231 rfl (lv_at hl 0 rfl) ?_
                refine gf_X5_144 hx hb hT hown hK hP 0 rfl rfl dX5_nextToken_232 ?_
                refine wi_allM (rn_V (rest := [.ref (a 99)]) (ci := 3) hx hb hml hown hT hl.1 hC hS hP hD 0 rfl rfl rfl ck_X5_147 (c_X5_byteAt l G cs ts a H.size M41 L42 (M41 9 0) _ h) ⟨rfl, rfl, (Nat.le_of_ble_eq_true rfl), (Nat.le_of_ble_eq_true rfl)⟩ ⟨Nat.le_refl _, Nat.le_refl _⟩ rfl rfl (Nat.le_of_ble_eq_true rfl) dX5_nextToken_235) hD hS hA (fun r50 M51 L52 H locs hP hD hS h => ?_)
                refine lv_bipush (v := 59) hx hb dX5_nextToken_238 (by decide) ?_
                refine lv_icmp_ne (tgt := 247) hx hb dX5_nextToken_240 (by decide) (fun ct => ?_) (fun ct => ?_)
                · have h := h.1 ct
                  refine lv_iconst (v := 0) hx hb dX5_nextToken_247 (by decide) ?_
                  refine pf_X5_156 hx hb hT hown hK hP hD hS 0 rfl (Nat.le_of_ble_eq_true rfl) dX5_nextToken_248 (fun H locs hP hD hS => ?_)
                  obtain ⟨M53, eM53⟩ : ∃ z : ZI, z = mu M51 10 0 0 := ⟨_, rfl⟩
                  have h := h M53 eM53
                  have hP : va_P G vwCl (mdW a cs M53 L52) H := by rw [eM53]; exact hP
                  have hD : va_D A (mdW a cs M53 L52) := by rw [eM53]; exact hD
                  refine lv_aload_n hx hb dX5_nextToken_251 rfl (lv_at hl 0 rfl) ?_
                  refine lv_dup hx hb dX5_nextToken_252 rfl ?_
                  refine gf_X5_144 hx hb hT hown hK hP 0 rfl rfl dX5_nextToken_253 ?_
                  refine lv_iconst (v := 1) hx hb dX5_nextToken_256 (by decide) ?_
                  refine lv_iadd hx hb dX5_nextToken_257 ?_
                  refine pf_X5_144 hx hb hT hown hK hP hD hS 0 rfl (Nat.le_of_ble_eq_true rfl) dX5_nextToken_258 (fun H locs hP hD hS => ?_)
                  obtain ⟨M54, eM54⟩ : ∃ z : ZI, z = mu M53 9 0 ((M53 9 0) + 1) := ⟨_, rfl⟩
                  have h := h M54 eM54
                  have hP : va_P G vwCl (mdW a cs M54 L52) H := by rw [eM54]; exact hP
                  have hD : va_D A (mdW a cs M54 L52) := by rw [eM54]; exact hD
                  exact rt_Wv hx hb hr hlk dX5_nextToken_261 (M54, L52) hP hD hS h
                · have h := h.2 ct
                  refine lv_iconst (v := 4) hx hb dX5_nextToken_243 (by decide) ?_
                  refine lv_goto (tgt := 248) hx hb dX5_nextToken_244 (by decide) ?_
                  refine pf_X5_156 hx hb hT hown hK hP hD hS 0 rfl (Nat.le_of_ble_eq_true rfl) dX5_nextToken_248 (fun H locs hP hD hS => ?_)
                  obtain ⟨M55, eM55⟩ : ∃ z : ZI, z = mu M51 10 0 4 := ⟨_, rfl⟩
                  have h := h M55 eM55
                  have hP : va_P G vwCl (mdW a cs M55 L52) H := by rw [eM55]; exact hP
                  have hD : va_D A (mdW a cs M55 L52) := by rw [eM55]; exact hD
                  refine lv_aload_n hx hb dX5_nextToken_251 rfl (lv_at hl 0 rfl) ?_
                  refine lv_dup hx hb dX5_nextToken_252 rfl ?_
                  refine gf_X5_144 hx hb hT hown hK hP 0 rfl rfl dX5_nextToken_253 ?_
                  refine lv_iconst (v := 1) hx hb dX5_nextToken_256 (by decide) ?_
                  refine lv_iadd hx hb dX5_nextToken_257 ?_
                  refine pf_X5_144 hx hb hT hown hK hP hD hS 0 rfl (Nat.le_of_ble_eq_true rfl) dX5_nextToken_258 (fun H locs hP hD hS => ?_)
                  obtain ⟨M56, eM56⟩ : ∃ z : ZI, z = mu M55 9 0 ((M55 9 0) + 1) := ⟨_, rfl⟩
                  have h := h M56 eM56
                  have hP : va_P G vwCl (mdW a cs M56 L52) H := by rw [eM56]; exact hP
                  have hD : va_D A (mdW a cs M56 L52) := by rw [eM56]; exact hD
                  exact rt_Wv hx hb hr hlk dX5_nextToken_261 (M56, L52) hP hD hS h
            · have h := h.2 ct
              refine lv_aload_n hx hb dX5_nextToken_214 rfl (lv_at hl 0 rfl) ?_
              refine lv_iconst (v := 0) hx hb dX5_nextToken_215 (by decide) ?_
              refine pf_X5_156 hx hb hT hown hK hP hD hS 0 rfl (Nat.le_of_ble_eq_true rfl) dX5_nextToken_216 (fun H locs hP hD hS => ?_)
              obtain ⟨M57, eM57⟩ : ∃ z : ZI, z = mu M41 10 0 0 := ⟨_, rfl⟩
              have h := h M57 eM57
              have hP : va_P G vwCl (mdW a cs M57 L42) H := by rw [eM57]; exact hP
              have hD : va_D A (mdW a cs M57 L42) := by rw [eM57]; exact hD
              refine lv_goto (tgt := 261) hx hb dX5_nextToken_219 (by decide) ?_
              exact rt_Wv hx hb hr hlk dX5_nextToken_261 (M57, L42) hP hD hS h
        · have h := h.2 ct
          refine lv_aload_n hx hb dX5_nextToken_88 rfl (lv_at hl 0 rfl) ?_
          refine lv_iconst (v := 1) hx hb dX5_nextToken_89 (by decide) ?_
          refine pf_X5_156 hx hb hT hown hK hP hD hS 0 rfl (Nat.le_of_ble_eq_true rfl) dX5_nextToken_90 (fun H locs hP hD hS => ?_)
          obtain ⟨M59, eM59⟩ : ∃ z : ZI, z = mu M11 10 0 1 := ⟨_, rfl⟩
          have h := h M59 eM59
          have hP : va_P G vwCl (mdW a cs M59 L12) H := by rw [eM59]; exact hP
          have hD : va_D A (mdW a cs M59 L12) := by rw [eM59]; exact hD
          refine lv_aload_n hx hb dX5_nextToken_93 rfl (lv_at hl 0 rfl) ?_
          refine lv_dup hx hb dX5_nextToken_94 rfl ?_
          refine gf_X5_144 hx hb hT hown hK hP 0 rfl rfl dX5_nextToken_95 ?_
          refine lv_iconst (v := 1) hx hb dX5_nextToken_98 (by decide) ?_
          refine lv_iadd hx hb dX5_nextToken_99 ?_
          refine pf_X5_144 hx hb hT hown hK hP hD hS 0 rfl (Nat.le_of_ble_eq_true rfl) dX5_nextToken_100 (fun H locs hP hD hS => ?_)
          obtain ⟨M60, eM60⟩ : ∃ z : ZI, z = mu M59 9 0 ((M59 9 0) + 1) := ⟨_, rfl⟩
          have h := h M60 eM60
          have hP : va_P G vwCl (mdW a cs M60 L12) H := by rw [eM60]; exact hP
          have hD : va_D A (mdW a cs M60 L12) := by rw [eM60]; exact hD
          refine lv_goto (tgt := 59) hx hb dX5_nextToken_103 (by decide) ?_
          exact ih _ _ h _ _ hP hD hS ls (lv_sub hl [0] rfl)
  obtain ⟨n104, h⟩ := h
  refine HL0  _ (fun M5 L6 h H locs hP hD hS ls hl => ?_) n104 _ _ h _ _ hP hD hS ls (lv_sub hl [0] rfl)
  refine lv_aload_n hx hb dX5_nextToken_26 rfl (lv_at hl 0 rfl) ?_
  refine lv_aload_n hx hb dX5_nextToken_27 rfl (lv_at hl 0 rfl) ?_
  refine gf_X5_144 hx hb hT hown hK hP 0 rfl rfl dX5_nextToken_28 ?_
  refine pf_X5_150 hx hb hT hown hK hP hD hS 0 rfl (Nat.le_of_ble_eq_true rfl) dX5_nextToken_31 (fun H locs hP hD hS => ?_)
  obtain ⟨M7, eM7⟩ : ∃ z : ZI, z = mu M5 12 0 (M5 9 0) := ⟨_, rfl⟩
  have h := h M7 eM7
  have hP : va_P G vwCl (mdW a cs M7 L6) H := by rw [eM7]; exact hP
  have hD : va_D A (mdW a cs M7 L6) := by rw [eM7]; exact hD
  refine lv_aload_n hx hb dX5_nextToken_34 rfl (lv_at hl 0 rfl) ?_
  refine lv_iconst (v := 0) hx hb dX5_nextToken_35 (by decide) ?_
  refine pf_X5_153 hx hb hT hown hK hP hD hS 0 rfl (Nat.le_of_ble_eq_true rfl) dX5_nextToken_36 (fun H locs hP hD hS => ?_)
  obtain ⟨M8, eM8⟩ : ∃ z : ZI, z = mu M7 11 0 0 := ⟨_, rfl⟩
  have h := h M8 eM8
  have hP : va_P G vwCl (mdW a cs M8 L6) H := by rw [eM8]; exact hP
  have hD : va_D A (mdW a cs M8 L6) := by rw [eM8]; exact hD
  refine lv_aload_n hx hb dX5_nextToken_39 rfl (lv_at hl 0 rfl) ?_
  refine lv_aload_n hx hb dX5_nextToken_40 rfl (lv_at hl 0 rfl) ?_
  refine gf_X5_144 hx hb hT hown hK hP 0 rfl rfl dX5_nextToken_41 ?_
  refine lv_aload_n hx hb dX5_nextToken_44 rfl (lv_at hl 0 rfl) ?_
  refine gf_X5_138 hx hb hT hown hK hP 0 rfl rfl dX5_nextToken_45 ?_
  refine lv_icmp_ne (tgt := 55) hx hb dX5_nextToken_48 (by decide) (fun ct => ?_) (fun ct => ?_)
  · have h := h.1 ct
    refine lv_iconst (v := 0) hx hb dX5_nextToken_55 (by decide) ?_
    refine pf_X5_156 hx hb hT hown hK hP hD hS 0 rfl (Nat.le_of_ble_eq_true rfl) dX5_nextToken_56 (fun H locs hP hD hS => ?_)
    obtain ⟨M9, eM9⟩ : ∃ z : ZI, z = mu M8 10 0 0 := ⟨_, rfl⟩
    have h := h M9 eM9
    have hP : va_P G vwCl (mdW a cs M9 L6) H := by rw [eM9]; exact hP
    have hD : va_D A (mdW a cs M9 L6) := by rw [eM9]; exact hD
    obtain ⟨n81, h⟩ := h
    refine HL59  _ (fun M61 L62 h H locs hP hD hS ls hl => ?_) n81 _ _ h _ _ hP hD hS ls (lv_sub hl [0] rfl)
    obtain ⟨n80, h⟩ := h
    refine HL106  _ (fun M63 L64 h H locs hP hD hS ls hl => ?_) n80 _ _ h _ _ hP hD hS ls (lv_sub hl [0] rfl)
    refine lv_aload_n hx hb dX5_nextToken_193 rfl (lv_at hl 0 rfl) ?_
    refine gf_X5_156 hx hb hT hown hK hP 0 rfl rfl dX5_nextToken_194 ?_
    refine lv_iconst (v := 2) hx hb dX5_nextToken_197 (by decide) ?_
    refine lv_icmp_ne (tgt := 222) hx hb dX5_nextToken_198 (by decide) (fun ct => ?_) (fun ct => ?_)
    · have h := h.1 ct
      refine lv_aload_n hx hb dX5_nextToken_222 rfl (lv_at hl 0 rfl) ?_
      refine gf_X5_156 hx hb hT hown hK hP 0 rfl rfl dX5_nextToken_223 ?_
      refine lv_if_ne (tgt := 261) hx hb dX5_nextToken_226 (by decide) (fun ct => ?_) (fun ct => ?_)
      · have h := h.1 ct
        exact rt_Wv hx hb hr hlk dX5_nextToken_261 (M63, L64) hP hD hS h
      · have h := h.2 ct
        refine lv_aload_n hx hb dX5_nextToken_229 rfl (lv_at hl 0 rfl) ?_
        refine lv_aload_n hx hb dX5_nextToken_230 rfl (lv_at hl 0 rfl) ?_
        refine lv_aload_n hx hb dX5_nextToken_231 rfl (lv_at hl 0 rfl) ?_
        refine gf_X5_144 hx hb hT hown hK hP 0 rfl rfl dX5_nextToken_232 ?_
        refine wi_allM (rn_V (rest := [.ref (a 99)]) (ci := 3) hx hb hml hown hT hl.1 hC hS hP hD 0 rfl rfl rfl ck_X5_147 (c_X5_byteAt l G cs ts a H.size M63 L64 (M63 9 0) _ h) ⟨rfl, rfl, (Nat.le_of_ble_eq_true rfl), (Nat.le_of_ble_eq_true rfl)⟩ ⟨Nat.le_refl _, Nat.le_refl _⟩ rfl rfl (Nat.le_of_ble_eq_true rfl) dX5_nextToken_235) hD hS hA (fun r65 M66 L67 H locs hP hD hS h => ?_)
        refine lv_bipush (v := 59) hx hb dX5_nextToken_238 (by decide) ?_
        refine lv_icmp_ne (tgt := 247) hx hb dX5_nextToken_240 (by decide) (fun ct => ?_) (fun ct => ?_)
        · have h := h.1 ct
          refine lv_iconst (v := 0) hx hb dX5_nextToken_247 (by decide) ?_
          refine pf_X5_156 hx hb hT hown hK hP hD hS 0 rfl (Nat.le_of_ble_eq_true rfl) dX5_nextToken_248 (fun H locs hP hD hS => ?_)
          obtain ⟨M68, eM68⟩ : ∃ z : ZI, z = mu M66 10 0 0 := ⟨_, rfl⟩
          have h := h M68 eM68
          have hP : va_P G vwCl (mdW a cs M68 L67) H := by rw [eM68]; exact hP
          have hD : va_D A (mdW a cs M68 L67) := by rw [eM68]; exact hD
          refine lv_aload_n hx hb dX5_nextToken_251 rfl (lv_at hl 0 rfl) ?_
          refine lv_dup hx hb dX5_nextToken_252 rfl ?_
          refine gf_X5_144 hx hb hT hown hK hP 0 rfl rfl dX5_nextToken_253 ?_
          refine lv_iconst (v := 1) hx hb dX5_nextToken_256 (by decide) ?_
          refine lv_iadd hx hb dX5_nextToken_257 ?_
          refine pf_X5_144 hx hb hT hown hK hP hD hS 0 rfl (Nat.le_of_ble_eq_true rfl) dX5_nextToken_258 (fun H locs hP hD hS => ?_)
          obtain ⟨M69, eM69⟩ : ∃ z : ZI, z = mu M68 9 0 ((M68 9 0) + 1) := ⟨_, rfl⟩
          have h := h M69 eM69
          have hP : va_P G vwCl (mdW a cs M69 L67) H := by rw [eM69]; exact hP
          have hD : va_D A (mdW a cs M69 L67) := by rw [eM69]; exact hD
          exact rt_Wv hx hb hr hlk dX5_nextToken_261 (M69, L67) hP hD hS h
        · have h := h.2 ct
          refine lv_iconst (v := 4) hx hb dX5_nextToken_243 (by decide) ?_
          refine lv_goto (tgt := 248) hx hb dX5_nextToken_244 (by decide) ?_
          refine pf_X5_156 hx hb hT hown hK hP hD hS 0 rfl (Nat.le_of_ble_eq_true rfl) dX5_nextToken_248 (fun H locs hP hD hS => ?_)
          obtain ⟨M70, eM70⟩ : ∃ z : ZI, z = mu M66 10 0 4 := ⟨_, rfl⟩
          have h := h M70 eM70
          have hP : va_P G vwCl (mdW a cs M70 L67) H := by rw [eM70]; exact hP
          have hD : va_D A (mdW a cs M70 L67) := by rw [eM70]; exact hD
          refine lv_aload_n hx hb dX5_nextToken_251 rfl (lv_at hl 0 rfl) ?_
          refine lv_dup hx hb dX5_nextToken_252 rfl ?_
          refine gf_X5_144 hx hb hT hown hK hP 0 rfl rfl dX5_nextToken_253 ?_
          refine lv_iconst (v := 1) hx hb dX5_nextToken_256 (by decide) ?_
          refine lv_iadd hx hb dX5_nextToken_257 ?_
          refine pf_X5_144 hx hb hT hown hK hP hD hS 0 rfl (Nat.le_of_ble_eq_true rfl) dX5_nextToken_258 (fun H locs hP hD hS => ?_)
          obtain ⟨M71, eM71⟩ : ∃ z : ZI, z = mu M70 9 0 ((M70 9 0) + 1) := ⟨_, rfl⟩
          have h := h M71 eM71
          have hP : va_P G vwCl (mdW a cs M71 L67) H := by rw [eM71]; exact hP
          have hD : va_D A (mdW a cs M71 L67) := by rw [eM71]; exact hD
          exact rt_Wv hx hb hr hlk dX5_nextToken_261 (M71, L67) hP hD hS h
    · have h := h.2 ct
      refine lv_aload_n hx hb dX5_nextToken_201 rfl (lv_at hl 0 rfl) ?_
      refine gf_X5_144 hx hb hT hown hK hP 0 rfl rfl dX5_nextToken_202 ?_
      refine lv_aload_n hx hb dX5_nextToken_205 rfl (lv_at hl 0 rfl) ?_
      refine gf_X5_150 hx hb hT hown hK hP 0 rfl rfl dX5_nextToken_206 ?_
      refine lv_isub hx hb dX5_nextToken_209 ?_
      refine lv_iconst (v := 2) hx hb dX5_nextToken_210 (by decide) ?_
      refine lv_icmp_le (tgt := 222) hx hb dX5_nextToken_211 (by decide) (fun ct => ?_) (fun ct => ?_)
      · have h := h.1 ct
        refine lv_aload_n hx hb dX5_nextToken_222 rfl (lv_at hl 0 rfl) ?_
        refine gf_X5_156 hx hb hT hown hK hP 0 rfl rfl dX5_nextToken_223 ?_
        refine lv_if_ne (tgt := 261) hx hb dX5_nextToken_226 (by decide) (fun ct => ?_) (fun ct => ?_)
        · have h := h.1 ct
          exact rt_Wv hx hb hr hlk dX5_nextToken_261 (M63, L64) hP hD hS h
        · have h := h.2 ct
          refine lv_aload_n hx hb dX5_nextToken_229 rfl (lv_at hl 0 rfl) ?_
          refine lv_aload_n hx hb dX5_nextToken_230 rfl (lv_at hl 0 rfl) ?_
          refine lv_aload_n hx hb dX5_nextToken_231 rfl (lv_at hl 0 rfl) ?_
          refine gf_X5_144 hx hb hT hown hK hP 0 rfl rfl dX5_nextToken_232 ?_
          refine wi_allM (rn_V (rest := [.ref (a 99)]) (ci := 3) hx hb hml hown hT hl.1 hC hS hP hD 0 rfl rfl rfl ck_X5_147 (c_X5_byteAt l G cs ts a H.size M63 L64 (M63 9 0) _ h) ⟨rfl, rfl, (Nat.le_of_ble_eq_true rfl), (Nat.le_of_ble_eq_true rfl)⟩ ⟨Nat.le_refl _, Nat.le_refl _⟩ rfl rfl (Nat.le_of_ble_eq_true rfl) dX5_nextToken_235) hD hS hA (fun r72 M73 L74 H locs hP hD hS h => ?_)
          refine lv_bipush (v := 59) hx hb dX5_nextToken_238 (by decide) ?_
          refine lv_icmp_ne (tgt := 247) hx hb dX5_nextToken_240 (by decide) (fun ct => ?_) (fun ct => ?_)
          · have h := h.1 ct
            refine lv_iconst (v := 0) hx hb dX5_nextToken_247 (by decide) ?_
            refine pf_X5_156 hx hb hT hown hK hP hD hS 0 rfl (Nat.le_of_ble_eq_true rfl) dX5_nextToken_248 (fun H locs hP hD hS => ?_)
            obtain ⟨M75, eM75⟩ : ∃ z : ZI, z = mu M73 10 0 0 := ⟨_, rfl⟩
            have h := h M75 eM75
            have hP : va_P G vwCl (mdW a cs M75 L74) H := by rw [eM75]; exact hP
            have hD : va_D A (mdW a cs M75 L74) := by rw [eM75]; exact hD
            refine lv_aload_n hx hb dX5_nextToken_251 rfl (lv_at hl 0 rfl) ?_
            refine lv_dup hx hb dX5_nextToken_252 rfl ?_
            refine gf_X5_144 hx hb hT hown hK hP 0 rfl rfl dX5_nextToken_253 ?_
            refine lv_iconst (v := 1) hx hb dX5_nextToken_256 (by decide) ?_
            refine lv_iadd hx hb dX5_nextToken_257 ?_
            refine pf_X5_144 hx hb hT hown hK hP hD hS 0 rfl (Nat.le_of_ble_eq_true rfl) dX5_nextToken_258 (fun H locs hP hD hS => ?_)
            obtain ⟨M76, eM76⟩ : ∃ z : ZI, z = mu M75 9 0 ((M75 9 0) + 1) := ⟨_, rfl⟩
            have h := h M76 eM76
            have hP : va_P G vwCl (mdW a cs M76 L74) H := by rw [eM76]; exact hP
            have hD : va_D A (mdW a cs M76 L74) := by rw [eM76]; exact hD
            exact rt_Wv hx hb hr hlk dX5_nextToken_261 (M76, L74) hP hD hS h
          · have h := h.2 ct
            refine lv_iconst (v := 4) hx hb dX5_nextToken_243 (by decide) ?_
            refine lv_goto (tgt := 248) hx hb dX5_nextToken_244 (by decide) ?_
            refine pf_X5_156 hx hb hT hown hK hP hD hS 0 rfl (Nat.le_of_ble_eq_true rfl) dX5_nextToken_248 (fun H locs hP hD hS => ?_)
            obtain ⟨M77, eM77⟩ : ∃ z : ZI, z = mu M73 10 0 4 := ⟨_, rfl⟩
            have h := h M77 eM77
            have hP : va_P G vwCl (mdW a cs M77 L74) H := by rw [eM77]; exact hP
            have hD : va_D A (mdW a cs M77 L74) := by rw [eM77]; exact hD
            refine lv_aload_n hx hb dX5_nextToken_251 rfl (lv_at hl 0 rfl) ?_
            refine lv_dup hx hb dX5_nextToken_252 rfl ?_
            refine gf_X5_144 hx hb hT hown hK hP 0 rfl rfl dX5_nextToken_253 ?_
            refine lv_iconst (v := 1) hx hb dX5_nextToken_256 (by decide) ?_
            refine lv_iadd hx hb dX5_nextToken_257 ?_
            refine pf_X5_144 hx hb hT hown hK hP hD hS 0 rfl (Nat.le_of_ble_eq_true rfl) dX5_nextToken_258 (fun H locs hP hD hS => ?_)
            obtain ⟨M78, eM78⟩ : ∃ z : ZI, z = mu M77 9 0 ((M77 9 0) + 1) := ⟨_, rfl⟩
            have h := h M78 eM78
            have hP : va_P G vwCl (mdW a cs M78 L74) H := by rw [eM78]; exact hP
            have hD : va_D A (mdW a cs M78 L74) := by rw [eM78]; exact hD
            exact rt_Wv hx hb hr hlk dX5_nextToken_261 (M78, L74) hP hD hS h
      · have h := h.2 ct
        refine lv_aload_n hx hb dX5_nextToken_214 rfl (lv_at hl 0 rfl) ?_
        refine lv_iconst (v := 0) hx hb dX5_nextToken_215 (by decide) ?_
        refine pf_X5_156 hx hb hT hown hK hP hD hS 0 rfl (Nat.le_of_ble_eq_true rfl) dX5_nextToken_216 (fun H locs hP hD hS => ?_)
        obtain ⟨M79, eM79⟩ : ∃ z : ZI, z = mu M63 10 0 0 := ⟨_, rfl⟩
        have h := h M79 eM79
        have hP : va_P G vwCl (mdW a cs M79 L64) H := by rw [eM79]; exact hP
        have hD : va_D A (mdW a cs M79 L64) := by rw [eM79]; exact hD
        refine lv_goto (tgt := 261) hx hb dX5_nextToken_219 (by decide) ?_
        exact rt_Wv hx hb hr hlk dX5_nextToken_261 (M79, L64) hP hD hS h
  · have h := h.2 ct
    refine lv_iconst (v := 3) hx hb dX5_nextToken_51 (by decide) ?_
    refine lv_goto (tgt := 56) hx hb dX5_nextToken_52 (by decide) ?_
    refine pf_X5_156 hx hb hT hown hK hP hD hS 0 rfl (Nat.le_of_ble_eq_true rfl) dX5_nextToken_56 (fun H locs hP hD hS => ?_)
    obtain ⟨M82, eM82⟩ : ∃ z : ZI, z = mu M8 10 0 3 := ⟨_, rfl⟩
    have h := h M82 eM82
    have hP : va_P G vwCl (mdW a cs M82 L6) H := by rw [eM82]; exact hP
    have hD : va_D A (mdW a cs M82 L6) := by rw [eM82]; exact hD
    obtain ⟨n103, h⟩ := h
    refine HL59  _ (fun M83 L84 h H locs hP hD hS ls hl => ?_) n103 _ _ h _ _ hP hD hS ls (lv_sub hl [0] rfl)
    obtain ⟨n102, h⟩ := h
    refine HL106  _ (fun M85 L86 h H locs hP hD hS ls hl => ?_) n102 _ _ h _ _ hP hD hS ls (lv_sub hl [0] rfl)
    refine lv_aload_n hx hb dX5_nextToken_193 rfl (lv_at hl 0 rfl) ?_
    refine gf_X5_156 hx hb hT hown hK hP 0 rfl rfl dX5_nextToken_194 ?_
    refine lv_iconst (v := 2) hx hb dX5_nextToken_197 (by decide) ?_
    refine lv_icmp_ne (tgt := 222) hx hb dX5_nextToken_198 (by decide) (fun ct => ?_) (fun ct => ?_)
    · have h := h.1 ct
      refine lv_aload_n hx hb dX5_nextToken_222 rfl (lv_at hl 0 rfl) ?_
      refine gf_X5_156 hx hb hT hown hK hP 0 rfl rfl dX5_nextToken_223 ?_
      refine lv_if_ne (tgt := 261) hx hb dX5_nextToken_226 (by decide) (fun ct => ?_) (fun ct => ?_)
      · have h := h.1 ct
        exact rt_Wv hx hb hr hlk dX5_nextToken_261 (M85, L86) hP hD hS h
      · have h := h.2 ct
        refine lv_aload_n hx hb dX5_nextToken_229 rfl (lv_at hl 0 rfl) ?_
        refine lv_aload_n hx hb dX5_nextToken_230 rfl (lv_at hl 0 rfl) ?_
        refine lv_aload_n hx hb dX5_nextToken_231 rfl (lv_at hl 0 rfl) ?_
        refine gf_X5_144 hx hb hT hown hK hP 0 rfl rfl dX5_nextToken_232 ?_
        refine wi_allM (rn_V (rest := [.ref (a 99)]) (ci := 3) hx hb hml hown hT hl.1 hC hS hP hD 0 rfl rfl rfl ck_X5_147 (c_X5_byteAt l G cs ts a H.size M85 L86 (M85 9 0) _ h) ⟨rfl, rfl, (Nat.le_of_ble_eq_true rfl), (Nat.le_of_ble_eq_true rfl)⟩ ⟨Nat.le_refl _, Nat.le_refl _⟩ rfl rfl (Nat.le_of_ble_eq_true rfl) dX5_nextToken_235) hD hS hA (fun r87 M88 L89 H locs hP hD hS h => ?_)
        refine lv_bipush (v := 59) hx hb dX5_nextToken_238 (by decide) ?_
        refine lv_icmp_ne (tgt := 247) hx hb dX5_nextToken_240 (by decide) (fun ct => ?_) (fun ct => ?_)
        · have h := h.1 ct
          refine lv_iconst (v := 0) hx hb dX5_nextToken_247 (by decide) ?_
          refine pf_X5_156 hx hb hT hown hK hP hD hS 0 rfl (Nat.le_of_ble_eq_true rfl) dX5_nextToken_248 (fun H locs hP hD hS => ?_)
          obtain ⟨M90, eM90⟩ : ∃ z : ZI, z = mu M88 10 0 0 := ⟨_, rfl⟩
          have h := h M90 eM90
          have hP : va_P G vwCl (mdW a cs M90 L89) H := by rw [eM90]; exact hP
          have hD : va_D A (mdW a cs M90 L89) := by rw [eM90]; exact hD
          refine lv_aload_n hx hb dX5_nextToken_251 rfl (lv_at hl 0 rfl) ?_
          refine lv_dup hx hb dX5_nextToken_252 rfl ?_
          refine gf_X5_144 hx hb hT hown hK hP 0 rfl rfl dX5_nextToken_253 ?_
          refine lv_iconst (v := 1) hx hb dX5_nextToken_256 (by decide) ?_
          refine lv_iadd hx hb dX5_nextToken_257 ?_
          refine pf_X5_144 hx hb hT hown hK hP hD hS 0 rfl (Nat.le_of_ble_eq_true rfl) dX5_nextToken_258 (fun H locs hP hD hS => ?_)
          obtain ⟨M91, eM91⟩ : ∃ z : ZI, z = mu M90 9 0 ((M90 9 0) + 1) := ⟨_, rfl⟩
          have h := h M91 eM91
          have hP : va_P G vwCl (mdW a cs M91 L89) H := by rw [eM91]; exact hP
          have hD : va_D A (mdW a cs M91 L89) := by rw [eM91]; exact hD
          exact rt_Wv hx hb hr hlk dX5_nextToken_261 (M91, L89) hP hD hS h
        · have h := h.2 ct
          refine lv_iconst (v := 4) hx hb dX5_nextToken_243 (by decide) ?_
          refine lv_goto (tgt := 248) hx hb dX5_nextToken_244 (by decide) ?_
          refine pf_X5_156 hx hb hT hown hK hP hD hS 0 rfl (Nat.le_of_ble_eq_true rfl) dX5_nextToken_248 (fun H locs hP hD hS => ?_)
          obtain ⟨M92, eM92⟩ : ∃ z : ZI, z = mu M88 10 0 4 := ⟨_, rfl⟩
          have h := h M92 eM92
          have hP : va_P G vwCl (mdW a cs M92 L89) H := by rw [eM92]; exact hP
          have hD : va_D A (mdW a cs M92 L89) := by rw [eM92]; exact hD
          refine lv_aload_n hx hb dX5_nextToken_251 rfl (lv_at hl 0 rfl) ?_
          refine lv_dup hx hb dX5_nextToken_252 rfl ?_
          refine gf_X5_144 hx hb hT hown hK hP 0 rfl rfl dX5_nextToken_253 ?_
          refine lv_iconst (v := 1) hx hb dX5_nextToken_256 (by decide) ?_
          refine lv_iadd hx hb dX5_nextToken_257 ?_
          refine pf_X5_144 hx hb hT hown hK hP hD hS 0 rfl (Nat.le_of_ble_eq_true rfl) dX5_nextToken_258 (fun H locs hP hD hS => ?_)
          obtain ⟨M93, eM93⟩ : ∃ z : ZI, z = mu M92 9 0 ((M92 9 0) + 1) := ⟨_, rfl⟩
          have h := h M93 eM93
          have hP : va_P G vwCl (mdW a cs M93 L89) H := by rw [eM93]; exact hP
          have hD : va_D A (mdW a cs M93 L89) := by rw [eM93]; exact hD
          exact rt_Wv hx hb hr hlk dX5_nextToken_261 (M93, L89) hP hD hS h
    · have h := h.2 ct
      refine lv_aload_n hx hb dX5_nextToken_201 rfl (lv_at hl 0 rfl) ?_
      refine gf_X5_144 hx hb hT hown hK hP 0 rfl rfl dX5_nextToken_202 ?_
      refine lv_aload_n hx hb dX5_nextToken_205 rfl (lv_at hl 0 rfl) ?_
      refine gf_X5_150 hx hb hT hown hK hP 0 rfl rfl dX5_nextToken_206 ?_
      refine lv_isub hx hb dX5_nextToken_209 ?_
      refine lv_iconst (v := 2) hx hb dX5_nextToken_210 (by decide) ?_
      refine lv_icmp_le (tgt := 222) hx hb dX5_nextToken_211 (by decide) (fun ct => ?_) (fun ct => ?_)
      · have h := h.1 ct
        refine lv_aload_n hx hb dX5_nextToken_222 rfl (lv_at hl 0 rfl) ?_
        refine gf_X5_156 hx hb hT hown hK hP 0 rfl rfl dX5_nextToken_223 ?_
        refine lv_if_ne (tgt := 261) hx hb dX5_nextToken_226 (by decide) (fun ct => ?_) (fun ct => ?_)
        · have h := h.1 ct
          exact rt_Wv hx hb hr hlk dX5_nextToken_261 (M85, L86) hP hD hS h
        · have h := h.2 ct
          refine lv_aload_n hx hb dX5_nextToken_229 rfl (lv_at hl 0 rfl) ?_
          refine lv_aload_n hx hb dX5_nextToken_230 rfl (lv_at hl 0 rfl) ?_
          refine lv_aload_n hx hb dX5_nextToken_231 rfl (lv_at hl 0 rfl) ?_
          refine gf_X5_144 hx hb hT hown hK hP 0 rfl rfl dX5_nextToken_232 ?_
          refine wi_allM (rn_V (rest := [.ref (a 99)]) (ci := 3) hx hb hml hown hT hl.1 hC hS hP hD 0 rfl rfl rfl ck_X5_147 (c_X5_byteAt l G cs ts a H.size M85 L86 (M85 9 0) _ h) ⟨rfl, rfl, (Nat.le_of_ble_eq_true rfl), (Nat.le_of_ble_eq_true rfl)⟩ ⟨Nat.le_refl _, Nat.le_refl _⟩ rfl rfl (Nat.le_of_ble_eq_true rfl) dX5_nextToken_235) hD hS hA (fun r94 M95 L96 H locs hP hD hS h => ?_)
          refine lv_bipush (v := 59) hx hb dX5_nextToken_238 (by decide) ?_
          refine lv_icmp_ne (tgt := 247) hx hb dX5_nextToken_240 (by decide) (fun ct => ?_) (fun ct => ?_)
          · have h := h.1 ct
            refine lv_iconst (v := 0) hx hb dX5_nextToken_247 (by decide) ?_
            refine pf_X5_156 hx hb hT hown hK hP hD hS 0 rfl (Nat.le_of_ble_eq_true rfl) dX5_nextToken_248 (fun H locs hP hD hS => ?_)
            obtain ⟨M97, eM97⟩ : ∃ z : ZI, z = mu M95 10 0 0 := ⟨_, rfl⟩
            have h := h M97 eM97
            have hP : va_P G vwCl (mdW a cs M97 L96) H := by rw [eM97]; exact hP
            have hD : va_D A (mdW a cs M97 L96) := by rw [eM97]; exact hD
            refine lv_aload_n hx hb dX5_nextToken_251 rfl (lv_at hl 0 rfl) ?_
            refine lv_dup hx hb dX5_nextToken_252 rfl ?_
            refine gf_X5_144 hx hb hT hown hK hP 0 rfl rfl dX5_nextToken_253 ?_
            refine lv_iconst (v := 1) hx hb dX5_nextToken_256 (by decide) ?_
            refine lv_iadd hx hb dX5_nextToken_257 ?_
            refine pf_X5_144 hx hb hT hown hK hP hD hS 0 rfl (Nat.le_of_ble_eq_true rfl) dX5_nextToken_258 (fun H locs hP hD hS => ?_)
            obtain ⟨M98, eM98⟩ : ∃ z : ZI, z = mu M97 9 0 ((M97 9 0) + 1) := ⟨_, rfl⟩
            have h := h M98 eM98
            have hP : va_P G vwCl (mdW a cs M98 L96) H := by rw [eM98]; exact hP
            have hD : va_D A (mdW a cs M98 L96) := by rw [eM98]; exact hD
            exact rt_Wv hx hb hr hlk dX5_nextToken_261 (M98, L96) hP hD hS h
          · have h := h.2 ct
            refine lv_iconst (v := 4) hx hb dX5_nextToken_243 (by decide) ?_
            refine lv_goto (tgt := 248) hx hb dX5_nextToken_244 (by decide) ?_
            refine pf_X5_156 hx hb hT hown hK hP hD hS 0 rfl (Nat.le_of_ble_eq_true rfl) dX5_nextToken_248 (fun H locs hP hD hS => ?_)
            obtain ⟨M99, eM99⟩ : ∃ z : ZI, z = mu M95 10 0 4 := ⟨_, rfl⟩
            have h := h M99 eM99
            have hP : va_P G vwCl (mdW a cs M99 L96) H := by rw [eM99]; exact hP
            have hD : va_D A (mdW a cs M99 L96) := by rw [eM99]; exact hD
            refine lv_aload_n hx hb dX5_nextToken_251 rfl (lv_at hl 0 rfl) ?_
            refine lv_dup hx hb dX5_nextToken_252 rfl ?_
            refine gf_X5_144 hx hb hT hown hK hP 0 rfl rfl dX5_nextToken_253 ?_
            refine lv_iconst (v := 1) hx hb dX5_nextToken_256 (by decide) ?_
            refine lv_iadd hx hb dX5_nextToken_257 ?_
            refine pf_X5_144 hx hb hT hown hK hP hD hS 0 rfl (Nat.le_of_ble_eq_true rfl) dX5_nextToken_258 (fun H locs hP hD hS => ?_)
            obtain ⟨M100, eM100⟩ : ∃ z : ZI, z = mu M99 9 0 ((M99 9 0) + 1) := ⟨_, rfl⟩
            have h := h M100 eM100
            have hP : va_P G vwCl (mdW a cs M100 L96) H := by rw [eM100]; exact hP
            have hD : va_D A (mdW a cs M100 L96) := by rw [eM100]; exact hD
            exact rt_Wv hx hb hr hlk dX5_nextToken_261 (M100, L96) hP hD hS h
      · have h := h.2 ct
        refine lv_aload_n hx hb dX5_nextToken_214 rfl (lv_at hl 0 rfl) ?_
        refine lv_iconst (v := 0) hx hb dX5_nextToken_215 (by decide) ?_
        refine pf_X5_156 hx hb hT hown hK hP hD hS 0 rfl (Nat.le_of_ble_eq_true rfl) dX5_nextToken_216 (fun H locs hP hD hS => ?_)
        obtain ⟨M101, eM101⟩ : ∃ z : ZI, z = mu M85 10 0 0 := ⟨_, rfl⟩
        have h := h M101 eM101
        have hP : va_P G vwCl (mdW a cs M101 L86) H := by rw [eM101]; exact hP
        have hD : va_D A (mdW a cs M101 L86) := by rw [eM101]; exact hD
        refine lv_goto (tgt := 261) hx hb dX5_nextToken_219 (by decide) ?_
        exact rt_Wv hx hb hr hlk dX5_nextToken_261 (M101, L86) hP hD hS h
abbrev rm_X5_isWord : Room := { frames := 0, cells := 0, slots := 0, locals := 0 }
set_option maxRecDepth 100000 in
set_option maxHeartbeats 4000000 in
theorem c_X5_isWord (l : Launch) (G : va_G) (cs ts : Nat → Nat) (a : Nat → Nat) (sz : Nat)  (M : ZI) (L : ZL)   (x1 : Int32) (x2 : Int32) (x3 : Int32) (x4 : Int32) (x5 : Int32) (x6 : Int32) (post : Int32 → ZI → ZL → Prop) (h : w_X5_isWord M L x1 x2 x3 x4 x5 x6 post) : Met l yX5_isWord [.code yX5_isWord cX5_isWord 8 (some .boolean)] rm_X5_isWord (va_Pc [.ref (a 99), .int x1, .int x2, .int x3, .int x4, .int x5, .int x6] (CP G cs ts (mdW a cs M L) sz)) (va_Qi (fun (r : Int32) (u : ZI × ZL) => post r u.1 u.2) (CB G (va_A (mdW a cs M L) sz) (fun u => (mdW a cs u.1 u.2))) (va_A (mdW a cs M L) sz)) 0 0 (va_A (mdW a cs M L) sz) := by
  refine ax_W (Qc := fun A => va_Qi (fun (r : Int32) (u : ZI × ZL) => post r u.1 u.2) (CB G A (fun u => (mdW a cs u.1 u.2))) A) (by decide) (Nat.le_of_ble_eq_true rfl) sz ?_
  intro p e s m args below meth c A hx hb hr hlk hml hown hT hC hnm H locs hP hD hS ls hl
  have hK := hC.2.1
  have hA := hC.2.2
  have hl : lv_has ls 8 [(0, .ref (a 99)), (1, .int x1), (2, .int x2), (3, .int x3), (4, .int x4), (5, .int x5), (6, .int x6)] := hl
  unfold w_X5_isWord at h
  refine lv_aload_n hx hb dX5_isWord_0 rfl (lv_at hl 0 rfl) ?_
  refine gf_X5_156 hx hb hT hown hK hP 0 rfl rfl dX5_isWord_1 ?_
  refine lv_iconst (v := 1) hx hb dX5_isWord_4 (by decide) ?_
  refine lv_icmp_ne (tgt := 110) hx hb dX5_isWord_5 (by decide) (fun ct => ?_) (fun ct => ?_)
  · have h := h.1 ct
    refine lv_iconst (v := 0) hx hb dX5_isWord_110 (by decide) ?_
    refine lv_istore (lv' := [(7, .int 0), (0, .ref (a 99)), (1, .int x1), (2, .int x2), (3, .int x3), (4, .int x4), (5, .int x5), (6, .int x6)]) hx hb dX5_isWord_111 hl (by decide) rfl (fun ls hl => ?_)
    refine lv_iload hx hb dX5_isWord_113 (lv_at hl 0 rfl) ?_
    refine lv_if_eq (tgt := 143) hx hb dX5_isWord_115 (by decide) (fun _ => ?_) (fun ct => absurd (by decide) ct)
    refine lv_iconst (v := 0) hx hb dX5_isWord_143 (by decide) ?_
    exact rt_Wz hx hb hr hlk dX5_isWord_144 rfl (M, L) hP hD hS h
  · have h := h.2 ct
    refine lv_aload_n hx hb dX5_isWord_8 rfl (lv_at hl 0 rfl) ?_
    refine gf_X5_144 hx hb hT hown hK hP 0 rfl rfl dX5_isWord_9 ?_
    refine lv_aload_n hx hb dX5_isWord_12 rfl (lv_at hl 0 rfl) ?_
    refine gf_X5_150 hx hb hT hown hK hP 0 rfl rfl dX5_isWord_13 ?_
    refine lv_isub hx hb dX5_isWord_16 ?_
    refine lv_iload hx hb dX5_isWord_17 (lv_at hl 6 rfl) ?_
    refine lv_if_ne (tgt := 26) hx hb dX5_isWord_19 (by decide) (fun ct => ?_) (fun ct => ?_)
    · have h := h.1 ct
      refine lv_bipush (v := 6) hx hb dX5_isWord_26 (by decide) ?_
      refine lv_icmp_ne (tgt := 110) hx hb dX5_isWord_28 (by decide) (fun ct => ?_) (fun ct => ?_)
      · have h := h.1 ct
        refine lv_iconst (v := 0) hx hb dX5_isWord_110 (by decide) ?_
        refine lv_istore (lv' := [(7, .int 0), (0, .ref (a 99)), (1, .int x1), (2, .int x2), (3, .int x3), (4, .int x4), (5, .int x5), (6, .int x6)]) hx hb dX5_isWord_111 hl (by decide) rfl (fun ls hl => ?_)
        refine lv_iload hx hb dX5_isWord_113 (lv_at hl 0 rfl) ?_
        refine lv_if_eq (tgt := 143) hx hb dX5_isWord_115 (by decide) (fun _ => ?_) (fun ct => absurd (by decide) ct)
        refine lv_iconst (v := 0) hx hb dX5_isWord_143 (by decide) ?_
        exact rt_Wz hx hb hr hlk dX5_isWord_144 rfl (M, L) hP hD hS h
      · have h := h.2 ct
        refine lv_aload_n hx hb dX5_isWord_31 rfl (lv_at hl 0 rfl) ?_
        refine gf_X5_26 hx hb hT hown hK hP 0 rfl rfl dX5_isWord_32 ?_
        refine lv_aload_n hx hb dX5_isWord_35 rfl (lv_at hl 0 rfl) ?_
        refine gf_X5_150 hx hb hT hown hK hP 0 rfl rfl dX5_isWord_36 ?_
        obtain ⟨hi, h⟩ := h
        refine va_iald hx hb hK hP 5 0 rfl rfl hi dX5_isWord_39 ?_
        refine lv_iload_n hx hb dX5_isWord_40 rfl (lv_at hl 1 rfl) ?_
        refine lv_icmp_ne (tgt := 110) hx hb dX5_isWord_41 (by decide) (fun ct => ?_) (fun ct => ?_)
        · have h := h.1 ct
          refine lv_iconst (v := 0) hx hb dX5_isWord_110 (by decide) ?_
          refine lv_istore (lv' := [(7, .int 0), (0, .ref (a 99)), (1, .int x1), (2, .int x2), (3, .int x3), (4, .int x4), (5, .int x5), (6, .int x6)]) hx hb dX5_isWord_111 hl (by decide) rfl (fun ls hl => ?_)
          refine lv_iload hx hb dX5_isWord_113 (lv_at hl 0 rfl) ?_
          refine lv_if_eq (tgt := 143) hx hb dX5_isWord_115 (by decide) (fun _ => ?_) (fun ct => absurd (by decide) ct)
          refine lv_iconst (v := 0) hx hb dX5_isWord_143 (by decide) ?_
          exact rt_Wz hx hb hr hlk dX5_isWord_144 rfl (M, L) hP hD hS h
        · have h := h.2 ct
          refine lv_aload_n hx hb dX5_isWord_44 rfl (lv_at hl 0 rfl) ?_
          refine gf_X5_26 hx hb hT hown hK hP 0 rfl rfl dX5_isWord_45 ?_
          refine lv_aload_n hx hb dX5_isWord_48 rfl (lv_at hl 0 rfl) ?_
          refine gf_X5_150 hx hb hT hown hK hP 0 rfl rfl dX5_isWord_49 ?_
          refine lv_iconst (v := 1) hx hb dX5_isWord_52 (by decide) ?_
          refine lv_iadd hx hb dX5_isWord_53 ?_
          obtain ⟨hi, h⟩ := h
          refine va_iald hx hb hK hP 5 0 rfl rfl hi dX5_isWord_54 ?_
          refine lv_iload_n hx hb dX5_isWord_55 rfl (lv_at hl 2 rfl) ?_
          refine lv_icmp_ne (tgt := 110) hx hb dX5_isWord_56 (by decide) (fun ct => ?_) (fun ct => ?_)
          · have h := h.1 ct
            refine lv_iconst (v := 0) hx hb dX5_isWord_110 (by decide) ?_
            refine lv_istore (lv' := [(7, .int 0), (0, .ref (a 99)), (1, .int x1), (2, .int x2), (3, .int x3), (4, .int x4), (5, .int x5), (6, .int x6)]) hx hb dX5_isWord_111 hl (by decide) rfl (fun ls hl => ?_)
            refine lv_iload hx hb dX5_isWord_113 (lv_at hl 0 rfl) ?_
            refine lv_if_eq (tgt := 143) hx hb dX5_isWord_115 (by decide) (fun _ => ?_) (fun ct => absurd (by decide) ct)
            refine lv_iconst (v := 0) hx hb dX5_isWord_143 (by decide) ?_
            exact rt_Wz hx hb hr hlk dX5_isWord_144 rfl (M, L) hP hD hS h
          · have h := h.2 ct
            refine lv_aload_n hx hb dX5_isWord_59 rfl (lv_at hl 0 rfl) ?_
            refine gf_X5_26 hx hb hT hown hK hP 0 rfl rfl dX5_isWord_60 ?_
            refine lv_aload_n hx hb dX5_isWord_63 rfl (lv_at hl 0 rfl) ?_
            refine gf_X5_150 hx hb hT hown hK hP 0 rfl rfl dX5_isWord_64 ?_
            refine lv_iconst (v := 2) hx hb dX5_isWord_67 (by decide) ?_
            refine lv_iadd hx hb dX5_isWord_68 ?_
            obtain ⟨hi, h⟩ := h
            refine va_iald hx hb hK hP 5 0 rfl rfl hi dX5_isWord_69 ?_
            refine lv_iload_n hx hb dX5_isWord_70 rfl (lv_at hl 3 rfl) ?_
            refine lv_icmp_ne (tgt := 110) hx hb dX5_isWord_71 (by decide) (fun ct => ?_) (fun ct => ?_)
            · have h := h.1 ct
              refine lv_iconst (v := 0) hx hb dX5_isWord_110 (by decide) ?_
              refine lv_istore (lv' := [(7, .int 0), (0, .ref (a 99)), (1, .int x1), (2, .int x2), (3, .int x3), (4, .int x4), (5, .int x5), (6, .int x6)]) hx hb dX5_isWord_111 hl (by decide) rfl (fun ls hl => ?_)
              refine lv_iload hx hb dX5_isWord_113 (lv_at hl 0 rfl) ?_
              refine lv_if_eq (tgt := 143) hx hb dX5_isWord_115 (by decide) (fun _ => ?_) (fun ct => absurd (by decide) ct)
              refine lv_iconst (v := 0) hx hb dX5_isWord_143 (by decide) ?_
              exact rt_Wz hx hb hr hlk dX5_isWord_144 rfl (M, L) hP hD hS h
            · have h := h.2 ct
              refine lv_aload_n hx hb dX5_isWord_74 rfl (lv_at hl 0 rfl) ?_
              refine gf_X5_26 hx hb hT hown hK hP 0 rfl rfl dX5_isWord_75 ?_
              refine lv_aload_n hx hb dX5_isWord_78 rfl (lv_at hl 0 rfl) ?_
              refine gf_X5_150 hx hb hT hown hK hP 0 rfl rfl dX5_isWord_79 ?_
              refine lv_iconst (v := 3) hx hb dX5_isWord_82 (by decide) ?_
              refine lv_iadd hx hb dX5_isWord_83 ?_
              obtain ⟨hi, h⟩ := h
              refine va_iald hx hb hK hP 5 0 rfl rfl hi dX5_isWord_84 ?_
              refine lv_iload hx hb dX5_isWord_85 (lv_at hl 4 rfl) ?_
              refine lv_icmp_ne (tgt := 110) hx hb dX5_isWord_87 (by decide) (fun ct => ?_) (fun ct => ?_)
              · have h := h.1 ct
                refine lv_iconst (v := 0) hx hb dX5_isWord_110 (by decide) ?_
                refine lv_istore (lv' := [(7, .int 0), (0, .ref (a 99)), (1, .int x1), (2, .int x2), (3, .int x3), (4, .int x4), (5, .int x5), (6, .int x6)]) hx hb dX5_isWord_111 hl (by decide) rfl (fun ls hl => ?_)
                refine lv_iload hx hb dX5_isWord_113 (lv_at hl 0 rfl) ?_
                refine lv_if_eq (tgt := 143) hx hb dX5_isWord_115 (by decide) (fun _ => ?_) (fun ct => absurd (by decide) ct)
                refine lv_iconst (v := 0) hx hb dX5_isWord_143 (by decide) ?_
                exact rt_Wz hx hb hr hlk dX5_isWord_144 rfl (M, L) hP hD hS h
              · have h := h.2 ct
                refine lv_aload_n hx hb dX5_isWord_90 rfl (lv_at hl 0 rfl) ?_
                refine gf_X5_26 hx hb hT hown hK hP 0 rfl rfl dX5_isWord_91 ?_
                refine lv_aload_n hx hb dX5_isWord_94 rfl (lv_at hl 0 rfl) ?_
                refine gf_X5_150 hx hb hT hown hK hP 0 rfl rfl dX5_isWord_95 ?_
                refine lv_iconst (v := 4) hx hb dX5_isWord_98 (by decide) ?_
                refine lv_iadd hx hb dX5_isWord_99 ?_
                obtain ⟨hi, h⟩ := h
                refine va_iald hx hb hK hP 5 0 rfl rfl hi dX5_isWord_100 ?_
                refine lv_iload hx hb dX5_isWord_101 (lv_at hl 5 rfl) ?_
                refine lv_icmp_ne (tgt := 110) hx hb dX5_isWord_103 (by decide) (fun ct => ?_) (fun ct => ?_)
                · have h := h.1 ct
                  refine lv_iconst (v := 0) hx hb dX5_isWord_110 (by decide) ?_
                  refine lv_istore (lv' := [(7, .int 0), (0, .ref (a 99)), (1, .int x1), (2, .int x2), (3, .int x3), (4, .int x4), (5, .int x5), (6, .int x6)]) hx hb dX5_isWord_111 hl (by decide) rfl (fun ls hl => ?_)
                  refine lv_iload hx hb dX5_isWord_113 (lv_at hl 0 rfl) ?_
                  refine lv_if_eq (tgt := 143) hx hb dX5_isWord_115 (by decide) (fun _ => ?_) (fun ct => absurd (by decide) ct)
                  refine lv_iconst (v := 0) hx hb dX5_isWord_143 (by decide) ?_
                  exact rt_Wz hx hb hr hlk dX5_isWord_144 rfl (M, L) hP hD hS h
                · have h := h.2 ct
                  refine lv_iconst (v := 1) hx hb dX5_isWord_106 (by decide) ?_
                  refine lv_goto (tgt := 111) hx hb dX5_isWord_107 (by decide) ?_
                  refine lv_istore (lv' := [(7, .int 1), (0, .ref (a 99)), (1, .int x1), (2, .int x2), (3, .int x3), (4, .int x4), (5, .int x5), (6, .int x6)]) hx hb dX5_isWord_111 hl (by decide) rfl (fun ls hl => ?_)
                  refine lv_iload hx hb dX5_isWord_113 (lv_at hl 0 rfl) ?_
                  refine lv_if_eq (tgt := 143) hx hb dX5_isWord_115 (by decide) (fun ct => absurd ct (by decide)) (fun _ => ?_)
                  refine lv_iload hx hb dX5_isWord_118 (lv_at hl 7 rfl) ?_
                  refine lv_if_eq (tgt := 139) hx hb dX5_isWord_120 (by decide) (fun ct => ?_) (fun ct => ?_)
                  · have h := h.1 ct
                    refine lv_iconst (v := 1) hx hb dX5_isWord_139 (by decide) ?_
                    refine lv_goto (tgt := 144) hx hb dX5_isWord_140 (by decide) ?_
                    exact rt_Wz hx hb hr hlk dX5_isWord_144 rfl (M, L) hP hD hS h
                  · have h := h.2 ct
                    refine lv_aload_n hx hb dX5_isWord_123 rfl (lv_at hl 1 rfl) ?_
                    refine gf_X5_26 hx hb hT hown hK hP 0 rfl rfl dX5_isWord_124 ?_
                    refine lv_aload_n hx hb dX5_isWord_127 rfl (lv_at hl 1 rfl) ?_
                    refine gf_X5_150 hx hb hT hown hK hP 0 rfl rfl dX5_isWord_128 ?_
                    refine lv_iconst (v := 5) hx hb dX5_isWord_131 (by decide) ?_
                    refine lv_iadd hx hb dX5_isWord_132 ?_
                    obtain ⟨hi, h⟩ := h
                    refine va_iald hx hb hK hP 5 0 rfl rfl hi dX5_isWord_133 ?_
                    refine lv_iload hx hb dX5_isWord_134 (lv_at hl 7 rfl) ?_
                    refine lv_icmp_ne (tgt := 143) hx hb dX5_isWord_136 (by decide) (fun ct => ?_) (fun ct => ?_)
                    · have h := h.1 ct
                      refine lv_iconst (v := 0) hx hb dX5_isWord_143 (by decide) ?_
                      exact rt_Wz hx hb hr hlk dX5_isWord_144 rfl (M, L) hP hD hS h
                    · have h := h.2 ct
                      refine lv_iconst (v := 1) hx hb dX5_isWord_139 (by decide) ?_
                      refine lv_goto (tgt := 144) hx hb dX5_isWord_140 (by decide) ?_
                      exact rt_Wz hx hb hr hlk dX5_isWord_144 rfl (M, L) hP hD hS h
    · have h := h.2 ct
      refine lv_iconst (v := 5) hx hb dX5_isWord_22 (by decide) ?_
      refine lv_goto (tgt := 28) hx hb dX5_isWord_23 (by decide) ?_
      refine lv_icmp_ne (tgt := 110) hx hb dX5_isWord_28 (by decide) (fun ct => ?_) (fun ct => ?_)
      · have h := h.1 ct
        refine lv_iconst (v := 0) hx hb dX5_isWord_110 (by decide) ?_
        refine lv_istore (lv' := [(7, .int 0), (0, .ref (a 99)), (1, .int x1), (2, .int x2), (3, .int x3), (4, .int x4), (5, .int x5), (6, .int x6)]) hx hb dX5_isWord_111 hl (by decide) rfl (fun ls hl => ?_)
        refine lv_iload hx hb dX5_isWord_113 (lv_at hl 0 rfl) ?_
        refine lv_if_eq (tgt := 143) hx hb dX5_isWord_115 (by decide) (fun _ => ?_) (fun ct => absurd (by decide) ct)
        refine lv_iconst (v := 0) hx hb dX5_isWord_143 (by decide) ?_
        exact rt_Wz hx hb hr hlk dX5_isWord_144 rfl (M, L) hP hD hS h
      · have h := h.2 ct
        refine lv_aload_n hx hb dX5_isWord_31 rfl (lv_at hl 0 rfl) ?_
        refine gf_X5_26 hx hb hT hown hK hP 0 rfl rfl dX5_isWord_32 ?_
        refine lv_aload_n hx hb dX5_isWord_35 rfl (lv_at hl 0 rfl) ?_
        refine gf_X5_150 hx hb hT hown hK hP 0 rfl rfl dX5_isWord_36 ?_
        obtain ⟨hi, h⟩ := h
        refine va_iald hx hb hK hP 5 0 rfl rfl hi dX5_isWord_39 ?_
        refine lv_iload_n hx hb dX5_isWord_40 rfl (lv_at hl 1 rfl) ?_
        refine lv_icmp_ne (tgt := 110) hx hb dX5_isWord_41 (by decide) (fun ct => ?_) (fun ct => ?_)
        · have h := h.1 ct
          refine lv_iconst (v := 0) hx hb dX5_isWord_110 (by decide) ?_
          refine lv_istore (lv' := [(7, .int 0), (0, .ref (a 99)), (1, .int x1), (2, .int x2), (3, .int x3), (4, .int x4), (5, .int x5), (6, .int x6)]) hx hb dX5_isWord_111 hl (by decide) rfl (fun ls hl => ?_)
          refine lv_iload hx hb dX5_isWord_113 (lv_at hl 0 rfl) ?_
          refine lv_if_eq (tgt := 143) hx hb dX5_isWord_115 (by decide) (fun _ => ?_) (fun ct => absurd (by decide) ct)
          refine lv_iconst (v := 0) hx hb dX5_isWord_143 (by decide) ?_
          exact rt_Wz hx hb hr hlk dX5_isWord_144 rfl (M, L) hP hD hS h
        · have h := h.2 ct
          refine lv_aload_n hx hb dX5_isWord_44 rfl (lv_at hl 0 rfl) ?_
          refine gf_X5_26 hx hb hT hown hK hP 0 rfl rfl dX5_isWord_45 ?_
          refine lv_aload_n hx hb dX5_isWord_48 rfl (lv_at hl 0 rfl) ?_
          refine gf_X5_150 hx hb hT hown hK hP 0 rfl rfl dX5_isWord_49 ?_
          refine lv_iconst (v := 1) hx hb dX5_isWord_52 (by decide) ?_
          refine lv_iadd hx hb dX5_isWord_53 ?_
          obtain ⟨hi, h⟩ := h
          refine va_iald hx hb hK hP 5 0 rfl rfl hi dX5_isWord_54 ?_
          refine lv_iload_n hx hb dX5_isWord_55 rfl (lv_at hl 2 rfl) ?_
          refine lv_icmp_ne (tgt := 110) hx hb dX5_isWord_56 (by decide) (fun ct => ?_) (fun ct => ?_)
          · have h := h.1 ct
            refine lv_iconst (v := 0) hx hb dX5_isWord_110 (by decide) ?_
            refine lv_istore (lv' := [(7, .int 0), (0, .ref (a 99)), (1, .int x1), (2, .int x2), (3, .int x3), (4, .int x4), (5, .int x5), (6, .int x6)]) hx hb dX5_isWord_111 hl (by decide) rfl (fun ls hl => ?_)
            refine lv_iload hx hb dX5_isWord_113 (lv_at hl 0 rfl) ?_
            refine lv_if_eq (tgt := 143) hx hb dX5_isWord_115 (by decide) (fun _ => ?_) (fun ct => absurd (by decide) ct)
            refine lv_iconst (v := 0) hx hb dX5_isWord_143 (by decide) ?_
            exact rt_Wz hx hb hr hlk dX5_isWord_144 rfl (M, L) hP hD hS h
          · have h := h.2 ct
            refine lv_aload_n hx hb dX5_isWord_59 rfl (lv_at hl 0 rfl) ?_
            refine gf_X5_26 hx hb hT hown hK hP 0 rfl rfl dX5_isWord_60 ?_
            refine lv_aload_n hx hb dX5_isWord_63 rfl (lv_at hl 0 rfl) ?_
            refine gf_X5_150 hx hb hT hown hK hP 0 rfl rfl dX5_isWord_64 ?_
            refine lv_iconst (v := 2) hx hb dX5_isWord_67 (by decide) ?_
            refine lv_iadd hx hb dX5_isWord_68 ?_
            obtain ⟨hi, h⟩ := h
            refine va_iald hx hb hK hP 5 0 rfl rfl hi dX5_isWord_69 ?_
            refine lv_iload_n hx hb dX5_isWord_70 rfl (lv_at hl 3 rfl) ?_
            refine lv_icmp_ne (tgt := 110) hx hb dX5_isWord_71 (by decide) (fun ct => ?_) (fun ct => ?_)
            · have h := h.1 ct
              refine lv_iconst (v := 0) hx hb dX5_isWord_110 (by decide) ?_
              refine lv_istore (lv' := [(7, .int 0), (0, .ref (a 99)), (1, .int x1), (2, .int x2), (3, .int x3), (4, .int x4), (5, .int x5), (6, .int x6)]) hx hb dX5_isWord_111 hl (by decide) rfl (fun ls hl => ?_)
              refine lv_iload hx hb dX5_isWord_113 (lv_at hl 0 rfl) ?_
              refine lv_if_eq (tgt := 143) hx hb dX5_isWord_115 (by decide) (fun _ => ?_) (fun ct => absurd (by decide) ct)
              refine lv_iconst (v := 0) hx hb dX5_isWord_143 (by decide) ?_
              exact rt_Wz hx hb hr hlk dX5_isWord_144 rfl (M, L) hP hD hS h
            · have h := h.2 ct
              refine lv_aload_n hx hb dX5_isWord_74 rfl (lv_at hl 0 rfl) ?_
              refine gf_X5_26 hx hb hT hown hK hP 0 rfl rfl dX5_isWord_75 ?_
              refine lv_aload_n hx hb dX5_isWord_78 rfl (lv_at hl 0 rfl) ?_
              refine gf_X5_150 hx hb hT hown hK hP 0 rfl rfl dX5_isWord_79 ?_
              refine lv_iconst (v := 3) hx hb dX5_isWord_82 (by decide) ?_
              refine lv_iadd hx hb dX5_isWord_83 ?_
              obtain ⟨hi, h⟩ := h
              refine va_iald hx hb hK hP 5 0 rfl rfl hi dX5_isWord_84 ?_
              refine lv_iload hx hb dX5_isWord_85 (lv_at hl 4 rfl) ?_
              refine lv_icmp_ne (tgt := 110) hx hb dX5_isWord_87 (by decide) (fun ct => ?_) (fun ct => ?_)
              · have h := h.1 ct
                refine lv_iconst (v := 0) hx hb dX5_isWord_110 (by decide) ?_
                refine lv_istore (lv' := [(7, .int 0), (0, .ref (a 99)), (1, .int x1), (2, .int x2), (3, .int x3), (4, .int x4), (5, .int x5), (6, .int x6)]) hx hb dX5_isWord_111 hl (by decide) rfl (fun ls hl => ?_)
                refine lv_iload hx hb dX5_isWord_113 (lv_at hl 0 rfl) ?_
                refine lv_if_eq (tgt := 143) hx hb dX5_isWord_115 (by decide) (fun _ => ?_) (fun ct => absurd (by decide) ct)
                refine lv_iconst (v := 0) hx hb dX5_isWord_143 (by decide) ?_
                exact rt_Wz hx hb hr hlk dX5_isWord_144 rfl (M, L) hP hD hS h
              · have h := h.2 ct
                refine lv_aload_n hx hb dX5_isWord_90 rfl (lv_at hl 0 rfl) ?_
                refine gf_X5_26 hx hb hT hown hK hP 0 rfl rfl dX5_isWord_91 ?_
                refine lv_aload_n hx hb dX5_isWord_94 rfl (lv_at hl 0 rfl) ?_
                refine gf_X5_150 hx hb hT hown hK hP 0 rfl rfl dX5_isWord_95 ?_
                refine lv_iconst (v := 4) hx hb dX5_isWord_98 (by decide) ?_
                refine lv_iadd hx hb dX5_isWord_99 ?_
                obtain ⟨hi, h⟩ := h
                refine va_iald hx hb hK hP 5 0 rfl rfl hi dX5_isWord_100 ?_
                refine lv_iload hx hb dX5_isWord_101 (lv_at hl 5 rfl) ?_
                refine lv_icmp_ne (tgt := 110) hx hb dX5_isWord_103 (by decide) (fun ct => ?_) (fun ct => ?_)
                · have h := h.1 ct
                  refine lv_iconst (v := 0) hx hb dX5_isWord_110 (by decide) ?_
                  refine lv_istore (lv' := [(7, .int 0), (0, .ref (a 99)), (1, .int x1), (2, .int x2), (3, .int x3), (4, .int x4), (5, .int x5), (6, .int x6)]) hx hb dX5_isWord_111 hl (by decide) rfl (fun ls hl => ?_)
                  refine lv_iload hx hb dX5_isWord_113 (lv_at hl 0 rfl) ?_
                  refine lv_if_eq (tgt := 143) hx hb dX5_isWord_115 (by decide) (fun _ => ?_) (fun ct => absurd (by decide) ct)
                  refine lv_iconst (v := 0) hx hb dX5_isWord_143 (by decide) ?_
                  exact rt_Wz hx hb hr hlk dX5_isWord_144 rfl (M, L) hP hD hS h
                · have h := h.2 ct
                  refine lv_iconst (v := 1) hx hb dX5_isWord_106 (by decide) ?_
                  refine lv_goto (tgt := 111) hx hb dX5_isWord_107 (by decide) ?_
                  refine lv_istore (lv' := [(7, .int 1), (0, .ref (a 99)), (1, .int x1), (2, .int x2), (3, .int x3), (4, .int x4), (5, .int x5), (6, .int x6)]) hx hb dX5_isWord_111 hl (by decide) rfl (fun ls hl => ?_)
                  refine lv_iload hx hb dX5_isWord_113 (lv_at hl 0 rfl) ?_
                  refine lv_if_eq (tgt := 143) hx hb dX5_isWord_115 (by decide) (fun ct => absurd ct (by decide)) (fun _ => ?_)
                  refine lv_iload hx hb dX5_isWord_118 (lv_at hl 7 rfl) ?_
                  refine lv_if_eq (tgt := 139) hx hb dX5_isWord_120 (by decide) (fun ct => ?_) (fun ct => ?_)
                  · have h := h.1 ct
                    refine lv_iconst (v := 1) hx hb dX5_isWord_139 (by decide) ?_
                    refine lv_goto (tgt := 144) hx hb dX5_isWord_140 (by decide) ?_
                    exact rt_Wz hx hb hr hlk dX5_isWord_144 rfl (M, L) hP hD hS h
                  · have h := h.2 ct
                    refine lv_aload_n hx hb dX5_isWord_123 rfl (lv_at hl 1 rfl) ?_
                    refine gf_X5_26 hx hb hT hown hK hP 0 rfl rfl dX5_isWord_124 ?_
                    refine lv_aload_n hx hb dX5_isWord_127 rfl (lv_at hl 1 rfl) ?_
                    refine gf_X5_150 hx hb hT hown hK hP 0 rfl rfl dX5_isWord_128 ?_
                    refine lv_iconst (v := 5) hx hb dX5_isWord_131 (by decide) ?_
                    refine lv_iadd hx hb dX5_isWord_132 ?_
                    obtain ⟨hi, h⟩ := h
                    refine va_iald hx hb hK hP 5 0 rfl rfl hi dX5_isWord_133 ?_
                    refine lv_iload hx hb dX5_isWord_134 (lv_at hl 7 rfl) ?_
                    refine lv_icmp_ne (tgt := 143) hx hb dX5_isWord_136 (by decide) (fun ct => ?_) (fun ct => ?_)
                    · have h := h.1 ct
                      refine lv_iconst (v := 0) hx hb dX5_isWord_143 (by decide) ?_
                      exact rt_Wz hx hb hr hlk dX5_isWord_144 rfl (M, L) hP hD hS h
                    · have h := h.2 ct
                      refine lv_iconst (v := 1) hx hb dX5_isWord_139 (by decide) ?_
                      refine lv_goto (tgt := 144) hx hb dX5_isWord_140 (by decide) ?_
                      exact rt_Wz hx hb hr hlk dX5_isWord_144 rfl (M, L) hP hD hS h
abbrev rm_X5_reads : Room := { frames := 2, cells := 0, slots := 0, locals := 45 }
set_option maxRecDepth 100000 in
set_option maxHeartbeats 4000000 in
theorem c_X5_reads (l : Launch) (G : va_G) (cs ts : Nat → Nat) (a : Nat → Nat) (sz : Nat)  (M : ZI) (L : ZL)   (x1 : Int32) (x2 : Int32) (post : Int32 → ZI → ZL → Prop) (h : w_X5_reads M L x1 x2 post) : Met l yX5_reads [.code yX5_reads cX5_reads 3 (some .boolean)] rm_X5_reads (va_Pc [.ref (a 99), .int x1, .int x2] (CP G cs ts (mdW a cs M L) sz)) (va_Qi (fun (r : Int32) (u : ZI × ZL) => post r u.1 u.2) (CB G (va_A (mdW a cs M L) sz) (fun u => (mdW a cs u.1 u.2))) (va_A (mdW a cs M L) sz)) 0 0 (va_A (mdW a cs M L) sz) := by
  refine ax_W (Qc := fun A => va_Qi (fun (r : Int32) (u : ZI × ZL) => post r u.1 u.2) (CB G A (fun u => (mdW a cs u.1 u.2))) A) (by decide) (Nat.le_of_ble_eq_true rfl) sz ?_
  intro p e s m args below meth c A hx hb hr hlk hml hown hT hC hnm H locs hP hD hS ls hl
  have hK := hC.2.1
  have hA := hC.2.2
  have hl : lv_has ls 3 [(0, .ref (a 99)), (1, .int x1), (2, .int x2)] := hl
  unfold w_X5_reads at h
  refine lv_aload_n hx hb dX5_reads_0 rfl (lv_at hl 0 rfl) ?_
  refine wv_allM (rn_V (rest := []) (ci := 3) hx hb hml hown hT hl.1 hC hS hP hD 0 rfl rfl rfl ck_X5_167 (c_X5_nextToken l G cs ts a H.size M L  _ h) ⟨rfl, rfl, (Nat.le_of_ble_eq_true rfl), (Nat.le_of_ble_eq_true rfl)⟩ ⟨Nat.le_refl _, Nat.le_refl _⟩ rfl rfl (Nat.le_of_ble_eq_true rfl) dX5_reads_1) hD hS hA (fun M1 L2 H locs hP hD hS h => ?_)
  refine lv_aload_n hx hb dX5_reads_4 rfl (lv_at hl 0 rfl) ?_
  refine gf_X5_29 hx hb hT hown hK hP 0 rfl rfl dX5_reads_5 ?_
  refine lv_iload_n hx hb dX5_reads_8 rfl (lv_at hl 1 rfl) ?_
  refine lv_aload_n hx hb dX5_reads_9 rfl (lv_at hl 0 rfl) ?_
  refine gf_X5_153 hx hb hT hown hK hP 0 rfl rfl dX5_reads_10 ?_
  obtain ⟨hi, h⟩ := h
  refine va_iast hx hb hK hP hD hS 6 0 rfl rfl hi dX5_reads_13 (fun H locs hP hD hS => ?_)
  obtain ⟨M3, eM3⟩ : ∃ z : ZI, z = mu M1 13 x1.toNatClampNeg (M1 11 0) := ⟨_, rfl⟩
  have h := h M3 eM3
  have hP : va_P G vwCl (mdW a cs M3 L2) H := by rw [eM3]; exact hP
  have hD : va_D A (mdW a cs M3 L2) := by rw [eM3]; exact hD
  refine lv_aload_n hx hb dX5_reads_14 rfl (lv_at hl 0 rfl) ?_
  refine gf_X5_156 hx hb hT hown hK hP 0 rfl rfl dX5_reads_15 ?_
  refine lv_iconst (v := 2) hx hb dX5_reads_18 (by decide) ?_
  refine lv_icmp_ne (tgt := 34) hx hb dX5_reads_19 (by decide) (fun ct => ?_) (fun ct => ?_)
  · have h := h.1 ct
    refine lv_iconst (v := 0) hx hb dX5_reads_34 (by decide) ?_
    exact rt_Wz hx hb hr hlk dX5_reads_35 rfl (M3, L2) hP hD hS h
  · have h := h.2 ct
    refine lv_aload_n hx hb dX5_reads_22 rfl (lv_at hl 0 rfl) ?_
    refine gf_X5_153 hx hb hT hown hK hP 0 rfl rfl dX5_reads_23 ?_
    refine lv_iload_n hx hb dX5_reads_26 rfl (lv_at hl 2 rfl) ?_
    refine lv_icmp_gt (tgt := 34) hx hb dX5_reads_27 (by decide) (fun ct => ?_) (fun ct => ?_)
    · have h := h.1 ct
      refine lv_iconst (v := 0) hx hb dX5_reads_34 (by decide) ?_
      exact rt_Wz hx hb hr hlk dX5_reads_35 rfl (M3, L2) hP hD hS h
    · have h := h.2 ct
      refine lv_iconst (v := 1) hx hb dX5_reads_30 (by decide) ?_
      refine lv_goto (tgt := 35) hx hb dX5_reads_31 (by decide) ?_
      exact rt_Wz hx hb hr hlk dX5_reads_35 rfl (M3, L2) hP hD hS h
abbrev rm_X5_readItem : Room := { frames := 5, cells := 0, slots := 0, locals := 129 }
set_option maxRecDepth 100000 in
set_option maxHeartbeats 4000000 in
theorem c_X5_readItem (l : Launch) (G : va_G) (cs ts : Nat → Nat) (a : Nat → Nat) (sz : Nat)  (M : ZI) (L : ZL)   (x1 : Int32) (x2 : Int32) (post : Int32 → ZI → ZL → Prop) (h : w_X5_readItem M L x1 x2 post) : Met l yX5_readItem [.code yX5_readItem cX5_readItem 4 (some .boolean)] rm_X5_readItem (va_Pc [.ref (a 99), .int x1, .int x2] (CP G cs ts (mdW a cs M L) sz)) (va_Qi (fun (r : Int32) (u : ZI × ZL) => post r u.1 u.2) (CB G (va_A (mdW a cs M L) sz) (fun u => (mdW a cs u.1 u.2))) (va_A (mdW a cs M L) sz)) 0 0 (va_A (mdW a cs M L) sz) := by
  refine ax_W (Qc := fun A => va_Qi (fun (r : Int32) (u : ZI × ZL) => post r u.1 u.2) (CB G A (fun u => (mdW a cs u.1 u.2))) A) (by decide) (Nat.le_of_ble_eq_true rfl) sz ?_
  intro p e s m args below meth c A hx hb hr hlk hml hown hT hC hnm H locs hP hD hS ls hl
  have hK := hC.2.1
  have hA := hC.2.2
  have hl : lv_has ls 4 [(0, .ref (a 99)), (1, .int x1), (2, .int x2)] := hl
  unfold w_X5_readItem at h
  refine lv_iload_n hx hb dX5_readItem_0 rfl (lv_at hl 1 rfl) ?_
  refine lv_if_eq (tgt := 58) hx hb dX5_readItem_1 (by decide) (fun ct => ?_) (fun ct => ?_)
  · have h := h.1 ct
    refine lv_aload_n hx hb dX5_readItem_58 rfl (lv_at hl 0 rfl) ?_
    refine lv_bipush (v := 112) hx hb dX5_readItem_59 (by decide) ?_
    refine lv_bipush (v := 111) hx hb dX5_readItem_61 (by decide) ?_
    refine lv_bipush (v := 116) hx hb dX5_readItem_63 (by decide) ?_
    refine lv_bipush (v := 97) hx hb dX5_readItem_65 (by decide) ?_
    refine lv_bipush (v := 116) hx hb dX5_readItem_67 (by decide) ?_
    refine lv_bipush (v := 111) hx hb dX5_readItem_69 (by decide) ?_
    refine wi_allM (rn_V (rest := []) (ci := 3) hx hb hml hown hT hl.1 hC hS hP hD 0 rfl rfl rfl ck_X5_170 (c_X5_isWord l G cs ts a H.size M L 112 111 116 97 116 111 _ h) ⟨rfl, rfl, (Nat.le_of_ble_eq_true rfl), (Nat.le_of_ble_eq_true rfl)⟩ ⟨Nat.le_refl _, Nat.le_refl _⟩ rfl rfl (Nat.le_of_ble_eq_true rfl) dX5_readItem_71) hD hS hA (fun r1 M2 L3 H locs hP hD hS h => ?_)
    refine lv_if_eq (tgt := 191) hx hb dX5_readItem_74 (by decide) (fun ct => ?_) (fun ct => ?_)
    · have h := h.1 ct
      refine lv_aload_n hx hb dX5_readItem_191 rfl (lv_at hl 0 rfl) ?_
      refine lv_bipush (v := 112) hx hb dX5_readItem_192 (by decide) ?_
      refine lv_bipush (v := 114) hx hb dX5_readItem_194 (by decide) ?_
      refine lv_bipush (v := 105) hx hb dX5_readItem_196 (by decide) ?_
      refine lv_bipush (v := 110) hx hb dX5_readItem_198 (by decide) ?_
      refine lv_bipush (v := 116) hx hb dX5_readItem_200 (by decide) ?_
      refine lv_iconst (v := 0) hx hb dX5_readItem_202 (by decide) ?_
      refine wi_allM (rn_V (rest := []) (ci := 3) hx hb hml hown hT hl.1 hC hS hP hD 0 rfl rfl rfl ck_X5_170 (c_X5_isWord l G cs ts a H.size M2 L3 112 114 105 110 116 0 _ h) ⟨rfl, rfl, (Nat.le_of_ble_eq_true rfl), (Nat.le_of_ble_eq_true rfl)⟩ ⟨Nat.le_refl _, Nat.le_refl _⟩ rfl rfl (Nat.le_of_ble_eq_true rfl) dX5_readItem_203) hD hS hA (fun r4 M5 L6 H locs hP hD hS h => ?_)
      refine lv_if_eq (tgt := 260) hx hb dX5_readItem_206 (by decide) (fun ct => ?_) (fun ct => ?_)
      · have h := h.1 ct
        refine lv_iconst (v := 0) hx hb dX5_readItem_260 (by decide) ?_
        refine lv_istore_n (lv' := [(3, .int 0), (0, .ref (a 99)), (1, .int x1), (2, .int x2)]) hx hb dX5_readItem_261 rfl hl (by decide) rfl (fun ls hl => ?_)
        refine lv_iload_n hx hb dX5_readItem_262 rfl (lv_at hl 0 rfl) ?_
        refine lv_if_eq (tgt := 315) hx hb dX5_readItem_263 (by decide) (fun _ => ?_) (fun ct => absurd (by decide) ct)
        refine lv_iload_n hx hb dX5_readItem_315 rfl (lv_at hl 0 rfl) ?_
        exact rt_Wz hx hb hr hlk dX5_readItem_316 rfl (M5, L6) hP hD hS h
      · have h := h.2 ct
        refine lv_aload_n hx hb dX5_readItem_209 rfl (lv_at hl 0 rfl) ?_
        refine lv_iconst (v := 0) hx hb dX5_readItem_210 (by decide) ?_
        refine lv_iconst (v := 5) hx hb dX5_readItem_211 (by decide) ?_
        refine wi_allM (rn_V (rest := []) (ci := 3) hx hb hml hown hT hl.1 hC hS hP hD 0 rfl rfl rfl ck_X5_174 (c_X5_reads l G cs ts a H.size M5 L6 0 5 _ h) ⟨rfl, rfl, (Nat.le_of_ble_eq_true rfl), (Nat.le_of_ble_eq_true rfl)⟩ ⟨Nat.le_refl _, Nat.le_refl _⟩ rfl rfl (Nat.le_of_ble_eq_true rfl) dX5_readItem_212) hD hS hA (fun r7 M8 L9 H locs hP hD hS h => ?_)
        refine lv_if_eq (tgt := 260) hx hb dX5_readItem_215 (by decide) (fun ct => ?_) (fun ct => ?_)
        · have h := h.1 ct
          refine lv_iconst (v := 0) hx hb dX5_readItem_260 (by decide) ?_
          refine lv_istore_n (lv' := [(3, .int 0), (0, .ref (a 99)), (1, .int x1), (2, .int x2)]) hx hb dX5_readItem_261 rfl hl (by decide) rfl (fun ls hl => ?_)
          refine lv_iload_n hx hb dX5_readItem_262 rfl (lv_at hl 0 rfl) ?_
          refine lv_if_eq (tgt := 315) hx hb dX5_readItem_263 (by decide) (fun _ => ?_) (fun ct => absurd (by decide) ct)
          refine lv_iload_n hx hb dX5_readItem_315 rfl (lv_at hl 0 rfl) ?_
          exact rt_Wz hx hb hr hlk dX5_readItem_316 rfl (M8, L9) hP hD hS h
        · have h := h.2 ct
          refine lv_aload_n hx hb dX5_readItem_218 rfl (lv_at hl 0 rfl) ?_
          refine lv_iconst (v := 1) hx hb dX5_readItem_219 (by decide) ?_
          refine lv_iconst (v := 1) hx hb dX5_readItem_220 (by decide) ?_
          refine wi_allM (rn_V (rest := []) (ci := 3) hx hb hml hown hT hl.1 hC hS hP hD 0 rfl rfl rfl ck_X5_174 (c_X5_reads l G cs ts a H.size M8 L9 1 1 _ h) ⟨rfl, rfl, (Nat.le_of_ble_eq_true rfl), (Nat.le_of_ble_eq_true rfl)⟩ ⟨Nat.le_refl _, Nat.le_refl _⟩ rfl rfl (Nat.le_of_ble_eq_true rfl) dX5_readItem_221) hD hS hA (fun r10 M11 L12 H locs hP hD hS h => ?_)
          refine lv_if_eq (tgt := 260) hx hb dX5_readItem_224 (by decide) (fun ct => ?_) (fun ct => ?_)
          · have h := h.1 ct
            refine lv_iconst (v := 0) hx hb dX5_readItem_260 (by decide) ?_
            refine lv_istore_n (lv' := [(3, .int 0), (0, .ref (a 99)), (1, .int x1), (2, .int x2)]) hx hb dX5_readItem_261 rfl hl (by decide) rfl (fun ls hl => ?_)
            refine lv_iload_n hx hb dX5_readItem_262 rfl (lv_at hl 0 rfl) ?_
            refine lv_if_eq (tgt := 315) hx hb dX5_readItem_263 (by decide) (fun _ => ?_) (fun ct => absurd (by decide) ct)
            refine lv_iload_n hx hb dX5_readItem_315 rfl (lv_at hl 0 rfl) ?_
            exact rt_Wz hx hb hr hlk dX5_readItem_316 rfl (M11, L12) hP hD hS h
          · have h := h.2 ct
            refine lv_aload_n hx hb dX5_readItem_227 rfl (lv_at hl 0 rfl) ?_
            refine lv_iconst (v := 2) hx hb dX5_readItem_228 (by decide) ?_
            refine lv_bipush (v := 7) hx hb dX5_readItem_229 (by decide) ?_
            refine wi_allM (rn_V (rest := []) (ci := 3) hx hb hml hown hT hl.1 hC hS hP hD 0 rfl rfl rfl ck_X5_174 (c_X5_reads l G cs ts a H.size M11 L12 2 7 _ h) ⟨rfl, rfl, (Nat.le_of_ble_eq_true rfl), (Nat.le_of_ble_eq_true rfl)⟩ ⟨Nat.le_refl _, Nat.le_refl _⟩ rfl rfl (Nat.le_of_ble_eq_true rfl) dX5_readItem_231) hD hS hA (fun r13 M14 L15 H locs hP hD hS h => ?_)
            refine lv_if_eq (tgt := 260) hx hb dX5_readItem_234 (by decide) (fun ct => ?_) (fun ct => ?_)
            · have h := h.1 ct
              refine lv_iconst (v := 0) hx hb dX5_readItem_260 (by decide) ?_
              refine lv_istore_n (lv' := [(3, .int 0), (0, .ref (a 99)), (1, .int x1), (2, .int x2)]) hx hb dX5_readItem_261 rfl hl (by decide) rfl (fun ls hl => ?_)
              refine lv_iload_n hx hb dX5_readItem_262 rfl (lv_at hl 0 rfl) ?_
              refine lv_if_eq (tgt := 315) hx hb dX5_readItem_263 (by decide) (fun _ => ?_) (fun ct => absurd (by decide) ct)
              refine lv_iload_n hx hb dX5_readItem_315 rfl (lv_at hl 0 rfl) ?_
              exact rt_Wz hx hb hr hlk dX5_readItem_316 rfl (M14, L15) hP hD hS h
            · have h := h.2 ct
              refine lv_aload_n hx hb dX5_readItem_237 rfl (lv_at hl 0 rfl) ?_
              refine lv_iconst (v := 3) hx hb dX5_readItem_238 (by decide) ?_
              refine lv_bipush (v := 7) hx hb dX5_readItem_239 (by decide) ?_
              refine wi_allM (rn_V (rest := []) (ci := 3) hx hb hml hown hT hl.1 hC hS hP hD 0 rfl rfl rfl ck_X5_174 (c_X5_reads l G cs ts a H.size M14 L15 3 7 _ h) ⟨rfl, rfl, (Nat.le_of_ble_eq_true rfl), (Nat.le_of_ble_eq_true rfl)⟩ ⟨Nat.le_refl _, Nat.le_refl _⟩ rfl rfl (Nat.le_of_ble_eq_true rfl) dX5_readItem_241) hD hS hA (fun r16 M17 L18 H locs hP hD hS h => ?_)
              refine lv_if_eq (tgt := 260) hx hb dX5_readItem_244 (by decide) (fun ct => ?_) (fun ct => ?_)
              · have h := h.1 ct
                refine lv_iconst (v := 0) hx hb dX5_readItem_260 (by decide) ?_
                refine lv_istore_n (lv' := [(3, .int 0), (0, .ref (a 99)), (1, .int x1), (2, .int x2)]) hx hb dX5_readItem_261 rfl hl (by decide) rfl (fun ls hl => ?_)
                refine lv_iload_n hx hb dX5_readItem_262 rfl (lv_at hl 0 rfl) ?_
                refine lv_if_eq (tgt := 315) hx hb dX5_readItem_263 (by decide) (fun _ => ?_) (fun ct => absurd (by decide) ct)
                refine lv_iload_n hx hb dX5_readItem_315 rfl (lv_at hl 0 rfl) ?_
                exact rt_Wz hx hb hr hlk dX5_readItem_316 rfl (M17, L18) hP hD hS h
              · have h := h.2 ct
                refine lv_aload_n hx hb dX5_readItem_247 rfl (lv_at hl 0 rfl) ?_
                refine lv_iconst (v := 4) hx hb dX5_readItem_248 (by decide) ?_
                refine lv_iconst (v := 3) hx hb dX5_readItem_249 (by decide) ?_
                refine wi_allM (rn_V (rest := []) (ci := 3) hx hb hml hown hT hl.1 hC hS hP hD 0 rfl rfl rfl ck_X5_174 (c_X5_reads l G cs ts a H.size M17 L18 4 3 _ h) ⟨rfl, rfl, (Nat.le_of_ble_eq_true rfl), (Nat.le_of_ble_eq_true rfl)⟩ ⟨Nat.le_refl _, Nat.le_refl _⟩ rfl rfl (Nat.le_of_ble_eq_true rfl) dX5_readItem_250) hD hS hA (fun r19 M20 L21 H locs hP hD hS h => ?_)
                refine lv_if_eq (tgt := 260) hx hb dX5_readItem_253 (by decide) (fun ct => ?_) (fun ct => ?_)
                · have h := h.1 ct
                  refine lv_iconst (v := 0) hx hb dX5_readItem_260 (by decide) ?_
                  refine lv_istore_n (lv' := [(3, .int 0), (0, .ref (a 99)), (1, .int x1), (2, .int x2)]) hx hb dX5_readItem_261 rfl hl (by decide) rfl (fun ls hl => ?_)
                  refine lv_iload_n hx hb dX5_readItem_262 rfl (lv_at hl 0 rfl) ?_
                  refine lv_if_eq (tgt := 315) hx hb dX5_readItem_263 (by decide) (fun _ => ?_) (fun ct => absurd (by decide) ct)
                  refine lv_iload_n hx hb dX5_readItem_315 rfl (lv_at hl 0 rfl) ?_
                  exact rt_Wz hx hb hr hlk dX5_readItem_316 rfl (M20, L21) hP hD hS h
                · have h := h.2 ct
                  refine lv_iconst (v := 1) hx hb dX5_readItem_256 (by decide) ?_
                  refine lv_goto (tgt := 261) hx hb dX5_readItem_257 (by decide) ?_
                  refine lv_istore_n (lv' := [(3, .int 1), (0, .ref (a 99)), (1, .int x1), (2, .int x2)]) hx hb dX5_readItem_261 rfl hl (by decide) rfl (fun ls hl => ?_)
                  refine lv_iload_n hx hb dX5_readItem_262 rfl (lv_at hl 0 rfl) ?_
                  refine lv_if_eq (tgt := 315) hx hb dX5_readItem_263 (by decide) (fun ct => absurd ct (by decide)) (fun _ => ?_)
                  refine lv_iload_n hx hb dX5_readItem_266 rfl (lv_at hl 3 rfl) ?_
                  refine lv_if_eq (tgt := 315) hx hb dX5_readItem_267 (by decide) (fun ct => ?_) (fun ct => ?_)
                  · have h := h.1 ct
                    refine lv_iload_n hx hb dX5_readItem_315 rfl (lv_at hl 0 rfl) ?_
                    exact rt_Wz hx hb hr hlk dX5_readItem_316 rfl (M20, L21) hP hD hS h
                  · have h := h.2 ct
                    refine lv_aload_n hx hb dX5_readItem_270 rfl (lv_at hl 1 rfl) ?_
                    refine gf_X5_7 hx hb hT hown hK hP 0 rfl rfl dX5_readItem_271 ?_
                    refine lv_bipush (v := 64) hx hb dX5_readItem_274 (by decide) ?_
                    have hi : vp_in 64 99 := by unfold vp_in; decide
                    refine va_iald hx hb hK hP 1 0 rfl rfl hi dX5_readItem_276 ?_
                    refine lv_if_le (tgt := 315) hx hb dX5_readItem_277 (by decide) (fun ct => ?_) (fun ct => ?_)
                    · have h := h.1 ct
                      refine lv_iload_n hx hb dX5_readItem_315 rfl (lv_at hl 0 rfl) ?_
                      exact rt_Wz hx hb hr hlk dX5_readItem_316 rfl (M20, L21) hP hD hS h
                    · have h := h.2 ct
                      refine lv_aload_n hx hb dX5_readItem_280 rfl (lv_at hl 1 rfl) ?_
                      refine lv_aload_n hx hb dX5_readItem_281 rfl (lv_at hl 1 rfl) ?_
                      refine gf_X5_29 hx hb hT hown hK hP 0 rfl rfl dX5_readItem_282 ?_
                      refine lv_iconst (v := 0) hx hb dX5_readItem_285 (by decide) ?_
                      have hi : vp_in 0 5 := by unfold vp_in; decide
                      refine va_iald hx hb hK hP 6 0 rfl rfl hi dX5_readItem_286 ?_
                      refine lv_aload_n hx hb dX5_readItem_287 rfl (lv_at hl 1 rfl) ?_
                      refine gf_X5_29 hx hb hT hown hK hP 0 rfl rfl dX5_readItem_288 ?_
                      refine lv_iconst (v := 1) hx hb dX5_readItem_291 (by decide) ?_
                      have hi : vp_in 1 5 := by unfold vp_in; decide
                      refine va_iald hx hb hK hP 6 0 rfl rfl hi dX5_readItem_292 ?_
                      refine lv_aload_n hx hb dX5_readItem_293 rfl (lv_at hl 1 rfl) ?_
                      refine gf_X5_29 hx hb hT hown hK hP 0 rfl rfl dX5_readItem_294 ?_
                      refine lv_iconst (v := 2) hx hb dX5_readItem_297 (by decide) ?_
                      have hi : vp_in 2 5 := by unfold vp_in; decide
                      refine va_iald hx hb hK hP 6 0 rfl rfl hi dX5_readItem_298 ?_
                      refine lv_aload_n hx hb dX5_readItem_299 rfl (lv_at hl 1 rfl) ?_
                      refine gf_X5_29 hx hb hT hown hK hP 0 rfl rfl dX5_readItem_300 ?_
                      refine lv_iconst (v := 3) hx hb dX5_readItem_303 (by decide) ?_
                      have hi : vp_in 3 5 := by unfold vp_in; decide
                      refine va_iald hx hb hK hP 6 0 rfl rfl hi dX5_readItem_304 ?_
                      refine lv_aload_n hx hb dX5_readItem_305 rfl (lv_at hl 1 rfl) ?_
                      refine gf_X5_29 hx hb hT hown hK hP 0 rfl rfl dX5_readItem_306 ?_
                      refine lv_iconst (v := 4) hx hb dX5_readItem_309 (by decide) ?_
                      have hi : vp_in 4 5 := by unfold vp_in; decide
                      refine va_iald hx hb hK hP 6 0 rfl rfl hi dX5_readItem_310 ?_
                      refine wi_allM (rn_V (rest := []) (ci := 3) hx hb hml hown hT hl.1 hC hS hP hD 0 rfl rfl rfl ck_X5_132 (c_X5_printOne l G cs ts a H.size M20 L21 (M20 13 0) (M20 13 1) (M20 13 2) (M20 13 3) (M20 13 4) _ h) ⟨rfl, rfl, (Nat.le_of_ble_eq_true rfl), (Nat.le_of_ble_eq_true rfl)⟩ ⟨Nat.le_refl _, Nat.le_refl _⟩ rfl rfl (Nat.le_of_ble_eq_true rfl) dX5_readItem_311) hD hS hA (fun r22 M23 L24 H locs hP hD hS h => ?_)
                      refine lv_pop hx hb dX5_readItem_314 rfl ?_
                      refine lv_iload_n hx hb dX5_readItem_315 rfl (lv_at hl 0 rfl) ?_
                      exact rt_Wz hx hb hr hlk dX5_readItem_316 rfl (M23, L24) hP hD hS h
    · have h := h.2 ct
      refine lv_aload_n hx hb dX5_readItem_77 rfl (lv_at hl 0 rfl) ?_
      refine lv_iconst (v := 0) hx hb dX5_readItem_78 (by decide) ?_
      refine lv_iconst (v := 1) hx hb dX5_readItem_79 (by decide) ?_
      refine wi_allM (rn_V (rest := []) (ci := 3) hx hb hml hown hT hl.1 hC hS hP hD 0 rfl rfl rfl ck_X5_174 (c_X5_reads l G cs ts a H.size M2 L3 0 1 _ h) ⟨rfl, rfl, (Nat.le_of_ble_eq_true rfl), (Nat.le_of_ble_eq_true rfl)⟩ ⟨Nat.le_refl _, Nat.le_refl _⟩ rfl rfl (Nat.le_of_ble_eq_true rfl) dX5_readItem_80) hD hS hA (fun r25 M26 L27 H locs hP hD hS h => ?_)
      refine lv_if_eq (tgt := 130) hx hb dX5_readItem_83 (by decide) (fun ct => ?_) (fun ct => ?_)
      · have h := h.1 ct
        refine lv_iconst (v := 0) hx hb dX5_readItem_130 (by decide) ?_
        refine lv_istore_n (lv' := [(3, .int 0), (0, .ref (a 99)), (1, .int x1), (2, .int x2)]) hx hb dX5_readItem_131 rfl hl (by decide) rfl (fun ls hl => ?_)
        refine lv_iload_n hx hb dX5_readItem_132 rfl (lv_at hl 0 rfl) ?_
        refine lv_if_eq (tgt := 189) hx hb dX5_readItem_133 (by decide) (fun _ => ?_) (fun ct => absurd (by decide) ct)
        refine lv_iload_n hx hb dX5_readItem_189 rfl (lv_at hl 0 rfl) ?_
        exact rt_Wz hx hb hr hlk dX5_readItem_190 rfl (M26, L27) hP hD hS h
      · have h := h.2 ct
        refine lv_aload_n hx hb dX5_readItem_86 rfl (lv_at hl 0 rfl) ?_
        refine lv_iconst (v := 1) hx hb dX5_readItem_87 (by decide) ?_
        refine lv_bipush (v := 15) hx hb dX5_readItem_88 (by decide) ?_
        refine wi_allM (rn_V (rest := []) (ci := 3) hx hb hml hown hT hl.1 hC hS hP hD 0 rfl rfl rfl ck_X5_174 (c_X5_reads l G cs ts a H.size M26 L27 1 15 _ h) ⟨rfl, rfl, (Nat.le_of_ble_eq_true rfl), (Nat.le_of_ble_eq_true rfl)⟩ ⟨Nat.le_refl _, Nat.le_refl _⟩ rfl rfl (Nat.le_of_ble_eq_true rfl) dX5_readItem_90) hD hS hA (fun r28 M29 L30 H locs hP hD hS h => ?_)
        refine lv_if_eq (tgt := 130) hx hb dX5_readItem_93 (by decide) (fun ct => ?_) (fun ct => ?_)
        · have h := h.1 ct
          refine lv_iconst (v := 0) hx hb dX5_readItem_130 (by decide) ?_
          refine lv_istore_n (lv' := [(3, .int 0), (0, .ref (a 99)), (1, .int x1), (2, .int x2)]) hx hb dX5_readItem_131 rfl hl (by decide) rfl (fun ls hl => ?_)
          refine lv_iload_n hx hb dX5_readItem_132 rfl (lv_at hl 0 rfl) ?_
          refine lv_if_eq (tgt := 189) hx hb dX5_readItem_133 (by decide) (fun _ => ?_) (fun ct => absurd (by decide) ct)
          refine lv_iload_n hx hb dX5_readItem_189 rfl (lv_at hl 0 rfl) ?_
          exact rt_Wz hx hb hr hlk dX5_readItem_190 rfl (M29, L30) hP hD hS h
        · have h := h.2 ct
          refine lv_aload_n hx hb dX5_readItem_96 rfl (lv_at hl 0 rfl) ?_
          refine lv_iconst (v := 2) hx hb dX5_readItem_97 (by decide) ?_
          refine lv_bipush (v := 15) hx hb dX5_readItem_98 (by decide) ?_
          refine wi_allM (rn_V (rest := []) (ci := 3) hx hb hml hown hT hl.1 hC hS hP hD 0 rfl rfl rfl ck_X5_174 (c_X5_reads l G cs ts a H.size M29 L30 2 15 _ h) ⟨rfl, rfl, (Nat.le_of_ble_eq_true rfl), (Nat.le_of_ble_eq_true rfl)⟩ ⟨Nat.le_refl _, Nat.le_refl _⟩ rfl rfl (Nat.le_of_ble_eq_true rfl) dX5_readItem_100) hD hS hA (fun r31 M32 L33 H locs hP hD hS h => ?_)
          refine lv_if_eq (tgt := 130) hx hb dX5_readItem_103 (by decide) (fun ct => ?_) (fun ct => ?_)
          · have h := h.1 ct
            refine lv_iconst (v := 0) hx hb dX5_readItem_130 (by decide) ?_
            refine lv_istore_n (lv' := [(3, .int 0), (0, .ref (a 99)), (1, .int x1), (2, .int x2)]) hx hb dX5_readItem_131 rfl hl (by decide) rfl (fun ls hl => ?_)
            refine lv_iload_n hx hb dX5_readItem_132 rfl (lv_at hl 0 rfl) ?_
            refine lv_if_eq (tgt := 189) hx hb dX5_readItem_133 (by decide) (fun _ => ?_) (fun ct => absurd (by decide) ct)
            refine lv_iload_n hx hb dX5_readItem_189 rfl (lv_at hl 0 rfl) ?_
            exact rt_Wz hx hb hr hlk dX5_readItem_190 rfl (M32, L33) hP hD hS h
          · have h := h.2 ct
            refine lv_aload_n hx hb dX5_readItem_106 rfl (lv_at hl 0 rfl) ?_
            refine lv_iconst (v := 3) hx hb dX5_readItem_107 (by decide) ?_
            refine lv_bipush (v := 15) hx hb dX5_readItem_108 (by decide) ?_
            refine wi_allM (rn_V (rest := []) (ci := 3) hx hb hml hown hT hl.1 hC hS hP hD 0 rfl rfl rfl ck_X5_174 (c_X5_reads l G cs ts a H.size M32 L33 3 15 _ h) ⟨rfl, rfl, (Nat.le_of_ble_eq_true rfl), (Nat.le_of_ble_eq_true rfl)⟩ ⟨Nat.le_refl _, Nat.le_refl _⟩ rfl rfl (Nat.le_of_ble_eq_true rfl) dX5_readItem_110) hD hS hA (fun r34 M35 L36 H locs hP hD hS h => ?_)
            refine lv_if_eq (tgt := 130) hx hb dX5_readItem_113 (by decide) (fun ct => ?_) (fun ct => ?_)
            · have h := h.1 ct
              refine lv_iconst (v := 0) hx hb dX5_readItem_130 (by decide) ?_
              refine lv_istore_n (lv' := [(3, .int 0), (0, .ref (a 99)), (1, .int x1), (2, .int x2)]) hx hb dX5_readItem_131 rfl hl (by decide) rfl (fun ls hl => ?_)
              refine lv_iload_n hx hb dX5_readItem_132 rfl (lv_at hl 0 rfl) ?_
              refine lv_if_eq (tgt := 189) hx hb dX5_readItem_133 (by decide) (fun _ => ?_) (fun ct => absurd (by decide) ct)
              refine lv_iload_n hx hb dX5_readItem_189 rfl (lv_at hl 0 rfl) ?_
              exact rt_Wz hx hb hr hlk dX5_readItem_190 rfl (M35, L36) hP hD hS h
            · have h := h.2 ct
              refine lv_aload_n hx hb dX5_readItem_116 rfl (lv_at hl 0 rfl) ?_
              refine lv_iconst (v := 4) hx hb dX5_readItem_117 (by decide) ?_
              refine lv_bipush (v := 15) hx hb dX5_readItem_118 (by decide) ?_
              refine wi_allM (rn_V (rest := []) (ci := 3) hx hb hml hown hT hl.1 hC hS hP hD 0 rfl rfl rfl ck_X5_174 (c_X5_reads l G cs ts a H.size M35 L36 4 15 _ h) ⟨rfl, rfl, (Nat.le_of_ble_eq_true rfl), (Nat.le_of_ble_eq_true rfl)⟩ ⟨Nat.le_refl _, Nat.le_refl _⟩ rfl rfl (Nat.le_of_ble_eq_true rfl) dX5_readItem_120) hD hS hA (fun r37 M38 L39 H locs hP hD hS h => ?_)
              refine lv_if_eq (tgt := 130) hx hb dX5_readItem_123 (by decide) (fun ct => ?_) (fun ct => ?_)
              · have h := h.1 ct
                refine lv_iconst (v := 0) hx hb dX5_readItem_130 (by decide) ?_
                refine lv_istore_n (lv' := [(3, .int 0), (0, .ref (a 99)), (1, .int x1), (2, .int x2)]) hx hb dX5_readItem_131 rfl hl (by decide) rfl (fun ls hl => ?_)
                refine lv_iload_n hx hb dX5_readItem_132 rfl (lv_at hl 0 rfl) ?_
                refine lv_if_eq (tgt := 189) hx hb dX5_readItem_133 (by decide) (fun _ => ?_) (fun ct => absurd (by decide) ct)
                refine lv_iload_n hx hb dX5_readItem_189 rfl (lv_at hl 0 rfl) ?_
                exact rt_Wz hx hb hr hlk dX5_readItem_190 rfl (M38, L39) hP hD hS h
              · have h := h.2 ct
                refine lv_iconst (v := 1) hx hb dX5_readItem_126 (by decide) ?_
                refine lv_goto (tgt := 131) hx hb dX5_readItem_127 (by decide) ?_
                refine lv_istore_n (lv' := [(3, .int 1), (0, .ref (a 99)), (1, .int x1), (2, .int x2)]) hx hb dX5_readItem_131 rfl hl (by decide) rfl (fun ls hl => ?_)
                refine lv_iload_n hx hb dX5_readItem_132 rfl (lv_at hl 0 rfl) ?_
                refine lv_if_eq (tgt := 189) hx hb dX5_readItem_133 (by decide) (fun ct => absurd ct (by decide)) (fun _ => ?_)
                refine lv_iload_n hx hb dX5_readItem_136 rfl (lv_at hl 3 rfl) ?_
                refine lv_if_eq (tgt := 189) hx hb dX5_readItem_137 (by decide) (fun ct => ?_) (fun ct => ?_)
                · have h := h.1 ct
                  refine lv_iload_n hx hb dX5_readItem_189 rfl (lv_at hl 0 rfl) ?_
                  exact rt_Wz hx hb hr hlk dX5_readItem_190 rfl (M38, L39) hP hD hS h
                · have h := h.2 ct
                  refine lv_aload_n hx hb dX5_readItem_140 rfl (lv_at hl 1 rfl) ?_
                  refine gf_X5_7 hx hb hT hown hK hP 0 rfl rfl dX5_readItem_141 ?_
                  refine lv_bipush (v := 65) hx hb dX5_readItem_144 (by decide) ?_
                  refine lv_aload_n hx hb dX5_readItem_146 rfl (lv_at hl 1 rfl) ?_
                  refine gf_X5_29 hx hb hT hown hK hP 0 rfl rfl dX5_readItem_147 ?_
                  refine lv_iconst (v := 0) hx hb dX5_readItem_150 (by decide) ?_
                  have hi : vp_in 0 5 := by unfold vp_in; decide
                  refine va_iald hx hb hK hP 6 0 rfl rfl hi dX5_readItem_151 ?_
                  refine lv_iadd hx hb dX5_readItem_152 ?_
                  refine lv_aload_n hx hb dX5_readItem_153 rfl (lv_at hl 1 rfl) ?_
                  refine gf_X5_29 hx hb hT hown hK hP 0 rfl rfl dX5_readItem_154 ?_
                  refine lv_iconst (v := 1) hx hb dX5_readItem_157 (by decide) ?_
                  have hi : vp_in 1 5 := by unfold vp_in; decide
                  refine va_iald hx hb hK hP 6 0 rfl rfl hi dX5_readItem_158 ?_
                  refine lv_aload_n hx hb dX5_readItem_159 rfl (lv_at hl 1 rfl) ?_
                  refine gf_X5_29 hx hb hT hown hK hP 0 rfl rfl dX5_readItem_160 ?_
                  refine lv_iconst (v := 2) hx hb dX5_readItem_163 (by decide) ?_
                  have hi : vp_in 2 5 := by unfold vp_in; decide
                  refine va_iald hx hb hK hP 6 0 rfl rfl hi dX5_readItem_164 ?_
                  refine lv_iconst (v := 4) hx hb dX5_readItem_165 (by decide) ?_
                  refine lv_ishl hx hb dX5_readItem_166 ?_
                  refine lv_ior hx hb dX5_readItem_167 ?_
                  refine lv_aload_n hx hb dX5_readItem_168 rfl (lv_at hl 1 rfl) ?_
                  refine gf_X5_29 hx hb hT hown hK hP 0 rfl rfl dX5_readItem_169 ?_
                  refine lv_iconst (v := 3) hx hb dX5_readItem_172 (by decide) ?_
                  have hi : vp_in 3 5 := by unfold vp_in; decide
                  refine va_iald hx hb hK hP 6 0 rfl rfl hi dX5_readItem_173 ?_
                  refine lv_bipush (v := 8) hx hb dX5_readItem_174 (by decide) ?_
                  refine lv_ishl hx hb dX5_readItem_176 ?_
                  refine lv_ior hx hb dX5_readItem_177 ?_
                  refine lv_aload_n hx hb dX5_readItem_178 rfl (lv_at hl 1 rfl) ?_
                  refine gf_X5_29 hx hb hT hown hK hP 0 rfl rfl dX5_readItem_179 ?_
                  refine lv_iconst (v := 4) hx hb dX5_readItem_182 (by decide) ?_
                  have hi : vp_in 4 5 := by unfold vp_in; decide
                  refine va_iald hx hb hK hP 6 0 rfl rfl hi dX5_readItem_183 ?_
                  refine lv_bipush (v := 12) hx hb dX5_readItem_184 (by decide) ?_
                  refine lv_ishl hx hb dX5_readItem_186 ?_
                  refine lv_ior hx hb dX5_readItem_187 ?_
                  obtain ⟨hi, h⟩ := h
                  refine va_iast hx hb hK hP hD hS 1 0 rfl rfl hi dX5_readItem_188 (fun H locs hP hD hS => ?_)
                  obtain ⟨M40, eM40⟩ : ∃ z : ZI, z = mu M38 0 (65 + (M38 13 0)).toNatClampNeg ((((M38 13 1) ||| ((M38 13 2) <<< (4 &&& 31))) ||| ((M38 13 3) <<< (8 &&& 31))) ||| ((M38 13 4) <<< (12 &&& 31))) := ⟨_, rfl⟩
                  have h := h M40 eM40
                  have hP : va_P G vwCl (mdW a cs M40 L39) H := by rw [eM40]; exact hP
                  have hD : va_D A (mdW a cs M40 L39) := by rw [eM40]; exact hD
                  refine lv_iload_n hx hb dX5_readItem_189 rfl (lv_at hl 0 rfl) ?_
                  exact rt_Wz hx hb hr hlk dX5_readItem_190 rfl (M40, L39) hP hD hS h
  · have h := h.2 ct
    refine lv_aload_n hx hb dX5_readItem_4 rfl (lv_at hl 0 rfl) ?_
    refine lv_bipush (v := 116) hx hb dX5_readItem_5 (by decide) ?_
    refine lv_bipush (v := 97) hx hb dX5_readItem_7 (by decide) ?_
    refine lv_bipush (v := 98) hx hb dX5_readItem_9 (by decide) ?_
    refine lv_bipush (v := 108) hx hb dX5_readItem_11 (by decide) ?_
    refine lv_bipush (v := 101) hx hb dX5_readItem_13 (by decide) ?_
    refine lv_iconst (v := 0) hx hb dX5_readItem_15 (by decide) ?_
    refine wi_allM (rn_V (rest := []) (ci := 3) hx hb hml hown hT hl.1 hC hS hP hD 0 rfl rfl rfl ck_X5_170 (c_X5_isWord l G cs ts a H.size M L 116 97 98 108 101 0 _ h) ⟨rfl, rfl, (Nat.le_of_ble_eq_true rfl), (Nat.le_of_ble_eq_true rfl)⟩ ⟨Nat.le_refl _, Nat.le_refl _⟩ rfl rfl (Nat.le_of_ble_eq_true rfl) dX5_readItem_16) hD hS hA (fun r41 M42 L43 H locs hP hD hS h => ?_)
    refine lv_if_eq (tgt := 36) hx hb dX5_readItem_19 (by decide) (fun ct => ?_) (fun ct => ?_)
    · have h := h.1 ct
      refine lv_iconst (v := 0) hx hb dX5_readItem_36 (by decide) ?_
      refine lv_istore_n (lv' := [(3, .int 0), (0, .ref (a 99)), (1, .int x1), (2, .int x2)]) hx hb dX5_readItem_37 rfl hl (by decide) rfl (fun ls hl => ?_)
      refine lv_iload_n hx hb dX5_readItem_38 rfl (lv_at hl 0 rfl) ?_
      refine lv_if_eq (tgt := 56) hx hb dX5_readItem_39 (by decide) (fun _ => ?_) (fun ct => absurd (by decide) ct)
      refine lv_iload_n hx hb dX5_readItem_56 rfl (lv_at hl 0 rfl) ?_
      exact rt_Wz hx hb hr hlk dX5_readItem_57 rfl (M42, L43) hP hD hS h
    · have h := h.2 ct
      refine lv_aload_n hx hb dX5_readItem_22 rfl (lv_at hl 0 rfl) ?_
      refine lv_iconst (v := 0) hx hb dX5_readItem_23 (by decide) ?_
      refine lv_bipush (v := 12) hx hb dX5_readItem_24 (by decide) ?_
      refine wi_allM (rn_V (rest := []) (ci := 3) hx hb hml hown hT hl.1 hC hS hP hD 0 rfl rfl rfl ck_X5_174 (c_X5_reads l G cs ts a H.size M42 L43 0 12 _ h) ⟨rfl, rfl, (Nat.le_of_ble_eq_true rfl), (Nat.le_of_ble_eq_true rfl)⟩ ⟨Nat.le_refl _, Nat.le_refl _⟩ rfl rfl (Nat.le_of_ble_eq_true rfl) dX5_readItem_26) hD hS hA (fun r44 M45 L46 H locs hP hD hS h => ?_)
      refine lv_if_eq (tgt := 36) hx hb dX5_readItem_29 (by decide) (fun ct => ?_) (fun ct => ?_)
      · have h := h.1 ct
        refine lv_iconst (v := 0) hx hb dX5_readItem_36 (by decide) ?_
        refine lv_istore_n (lv' := [(3, .int 0), (0, .ref (a 99)), (1, .int x1), (2, .int x2)]) hx hb dX5_readItem_37 rfl hl (by decide) rfl (fun ls hl => ?_)
        refine lv_iload_n hx hb dX5_readItem_38 rfl (lv_at hl 0 rfl) ?_
        refine lv_if_eq (tgt := 56) hx hb dX5_readItem_39 (by decide) (fun _ => ?_) (fun ct => absurd (by decide) ct)
        refine lv_iload_n hx hb dX5_readItem_56 rfl (lv_at hl 0 rfl) ?_
        exact rt_Wz hx hb hr hlk dX5_readItem_57 rfl (M45, L46) hP hD hS h
      · have h := h.2 ct
        refine lv_iconst (v := 1) hx hb dX5_readItem_32 (by decide) ?_
        refine lv_goto (tgt := 37) hx hb dX5_readItem_33 (by decide) ?_
        refine lv_istore_n (lv' := [(3, .int 1), (0, .ref (a 99)), (1, .int x1), (2, .int x2)]) hx hb dX5_readItem_37 rfl hl (by decide) rfl (fun ls hl => ?_)
        refine lv_iload_n hx hb dX5_readItem_38 rfl (lv_at hl 0 rfl) ?_
        refine lv_if_eq (tgt := 56) hx hb dX5_readItem_39 (by decide) (fun ct => absurd ct (by decide)) (fun _ => ?_)
        refine lv_iload_n hx hb dX5_readItem_42 rfl (lv_at hl 3 rfl) ?_
        refine lv_if_eq (tgt := 56) hx hb dX5_readItem_43 (by decide) (fun ct => ?_) (fun ct => ?_)
        · have h := h.1 ct
          refine lv_iload_n hx hb dX5_readItem_56 rfl (lv_at hl 0 rfl) ?_
          exact rt_Wz hx hb hr hlk dX5_readItem_57 rfl (M45, L46) hP hD hS h
        · have h := h.2 ct
          refine lv_aload_n hx hb dX5_readItem_46 rfl (lv_at hl 1 rfl) ?_
          refine lv_aload_n hx hb dX5_readItem_47 rfl (lv_at hl 1 rfl) ?_
          refine gf_X5_29 hx hb hT hown hK hP 0 rfl rfl dX5_readItem_48 ?_
          refine lv_iconst (v := 0) hx hb dX5_readItem_51 (by decide) ?_
          have hi : vp_in 0 5 := by unfold vp_in; decide
          refine va_iald hx hb hK hP 6 0 rfl rfl hi dX5_readItem_52 ?_
          refine wv_allM (rn_V (rest := []) (ci := 3) hx hb hml hown hT hl.1 hC hS hP hD 0 rfl rfl rfl ck_X5_116 (c_X5_anew l G cs ts a H.size M45 L46 (M45 13 0) _ h) ⟨rfl, rfl, (Nat.le_of_ble_eq_true rfl), (Nat.le_of_ble_eq_true rfl)⟩ ⟨Nat.le_refl _, Nat.le_refl _⟩ rfl rfl (Nat.le_of_ble_eq_true rfl) dX5_readItem_53) hD hS hA (fun M47 L48 H locs hP hD hS h => ?_)
          refine lv_iload_n hx hb dX5_readItem_56 rfl (lv_at hl 0 rfl) ?_
          exact rt_Wz hx hb hr hlk dX5_readItem_57 rfl (M47, L48) hP hD hS h
abbrev rm_X5_readText : Room := { frames := 6, cells := 0, slots := 0, locals := 152 }
set_option maxRecDepth 100000 in
set_option maxHeartbeats 4000000 in
theorem c_X5_readText (l : Launch) (G : va_G) (cs ts : Nat → Nat) (a : Nat → Nat) (sz : Nat)  (M : ZI) (L : ZL)   (x1 : Int32) (post : Int32 → ZI → ZL → Prop) (h : w_X5_readText M L x1 post) : Met l yX5_readText [.code yX5_readText cX5_readText 3 (some .int)] rm_X5_readText (va_Pc [.ref (a 99), .int x1] (CP G cs ts (mdW a cs M L) sz)) (va_Qi (fun (r : Int32) (u : ZI × ZL) => post r u.1 u.2) (CB G (va_A (mdW a cs M L) sz) (fun u => (mdW a cs u.1 u.2))) (va_A (mdW a cs M L) sz)) 0 0 (va_A (mdW a cs M L) sz) := by
  refine ax_W (Qc := fun A => va_Qi (fun (r : Int32) (u : ZI × ZL) => post r u.1 u.2) (CB G A (fun u => (mdW a cs u.1 u.2))) A) (by decide) (Nat.le_of_ble_eq_true rfl) sz ?_
  intro p e s m args below meth c A hx hb hr hlk hml hown hT hC hnm H locs hP hD hS ls hl
  have hK := hC.2.1
  have hA := hC.2.2
  have hl : lv_has ls 3 [(0, .ref (a 99)), (1, .int x1)] := hl
  unfold w_X5_readText at h
  have HL11 : ∀  (z1 : Int32) (K : ZI → ZL → Int32 → Prop), (∀ (Mv : ZI) (Lv : ZL) (y2 : Int32), K Mv Lv y2 → ∀ (H : Heap) (locs : List Loc), va_P G vwCl (mdW a cs Mv Lv) H → va_D A (mdW a cs Mv Lv) → va_S A s.heap H locs → ∀ ls : Array Slot, lv_has ls 3 [(0, .ref (a 99)), (1, .int z1), (2, .int y2)] → W p l e rm_X5_readText s m args below meth c H locs 0 0 (MQ below (va_Qi (fun (r : Int32) (u : ZI × ZL) => post r u.1 u.2) (CB G A (fun u => (mdW a cs u.1 u.2))) A) args s 0 0 A) (F0 m 66 ls [])) → ∀ (n : Nat) (Mv : ZI) (Lv : ZL) (y2 : Int32), itF (w_X5_readText_L11 z1 post K) (fun _ _ _ => False) n Mv Lv y2 → ∀ (H : Heap) (locs : List Loc), va_P G vwCl (mdW a cs Mv Lv) H → va_D A (mdW a cs Mv Lv) → va_S A s.heap H locs → ∀ ls : Array Slot, lv_has ls 3 [(0, .ref (a 99)), (1, .int z1), (2, .int y2)] → W p l e rm_X5_readText s m args below meth c H locs 0 0 (MQ below (va_Qi (fun (r : Int32) (u : ZI × ZL) => post r u.1 u.2) (CB G A (fun u => (mdW a cs u.1 u.2))) A) args s 0 0 A) (F0 m 11 ls []) := by
    intro z1 K hKK n
    induction n with
    | zero =>
      intro Mv Lv y2 h
      exact absurd h id
    | succ n ih =>
      intro Mv Lv y2 h H locs hP hD hS ls hl
      have h : w_X5_readText_L11 z1 post K (itF (w_X5_readText_L11 z1 post K) (fun _ _ _ => False) n) Mv Lv y2 := h
      generalize itF (w_X5_readText_L11 z1 post K) (fun _ _ _ => False) n = rec at h ih
      unfold w_X5_readText_L11 at h
      refine lv_iload_n hx hb dX5_readText_11 rfl (lv_at hl 2 rfl) ?_
      refine lv_if_eq (tgt := 23) hx hb dX5_readText_12 (by decide) (fun ct => ?_) (fun ct => ?_)
      · have h := h.1 ct
        refine lv_aload_n hx hb dX5_readText_23 rfl (lv_at hl 0 rfl) ?_
        refine lv_iload_n hx hb dX5_readText_24 rfl (lv_at hl 2 rfl) ?_
        refine lv_if_ne (tgt := 32) hx hb dX5_readText_25 (by decide) (fun ct => ?_) (fun ct => ?_)
        · have h := h.1 ct
          refine lv_iconst (v := 0) hx hb dX5_readText_32 (by decide) ?_
          refine lv_iload_n hx hb dX5_readText_33 rfl (lv_at hl 1 rfl) ?_
          refine wi_allM (rn_V (rest := []) (ci := 3) hx hb hml hown hT hl.1 hC hS hP hD 0 rfl rfl rfl ck_X5_177 (c_X5_readItem l G cs ts a H.size Mv Lv 0 z1 _ h) ⟨rfl, rfl, (Nat.le_of_ble_eq_true rfl), (Nat.le_of_ble_eq_true rfl)⟩ ⟨Nat.le_refl _, Nat.le_refl _⟩ rfl rfl (Nat.le_of_ble_eq_true rfl) dX5_readText_34) hD hS hA (fun r4 M5 L6 H locs hP hD hS h => ?_)
          refine lv_if_ne (tgt := 42) hx hb dX5_readText_37 (by decide) (fun ct => ?_) (fun ct => ?_)
          · have h := h.1 ct
            refine lv_aload_n hx hb dX5_readText_42 rfl (lv_at hl 0 rfl) ?_
            refine wv_allM (rn_V (rest := []) (ci := 3) hx hb hml hown hT hl.1 hC hS hP hD 0 rfl rfl rfl ck_X5_167 (c_X5_nextToken l G cs ts a H.size M5 L6  _ h) ⟨rfl, rfl, (Nat.le_of_ble_eq_true rfl), (Nat.le_of_ble_eq_true rfl)⟩ ⟨Nat.le_refl _, Nat.le_refl _⟩ rfl rfl (Nat.le_of_ble_eq_true rfl) dX5_readText_43) hD hS hA (fun M7 L8 H locs hP hD hS h => ?_)
            refine lv_aload_n hx hb dX5_readText_46 rfl (lv_at hl 0 rfl) ?_
            refine gf_X5_156 hx hb hT hown hK hP 0 rfl rfl dX5_readText_47 ?_
            refine lv_iconst (v := 4) hx hb dX5_readText_50 (by decide) ?_
            refine lv_icmp_eq (tgt := 56) hx hb dX5_readText_51 (by decide) (fun ct => ?_) (fun ct => ?_)
            · have h := h.1 ct
              refine lv_iinc (v := y2 + 1) (lv' := [(2, .int (y2 + 1)), (0, .ref (a 99)), (1, .int z1)]) hx hb dX5_readText_56 hl (k := 2) rfl rfl (by decide) rfl (fun ls hl => ?_)
              refine lv_aload_n hx hb dX5_readText_59 rfl (lv_at hl 1 rfl) ?_
              refine wv_allM (rn_V (rest := []) (ci := 3) hx hb hml hown hT hl.1 hC hS hP hD 0 rfl rfl rfl ck_X5_167 (c_X5_nextToken l G cs ts a H.size M7 L8  _ h) ⟨rfl, rfl, (Nat.le_of_ble_eq_true rfl), (Nat.le_of_ble_eq_true rfl)⟩ ⟨Nat.le_refl _, Nat.le_refl _⟩ rfl rfl (Nat.le_of_ble_eq_true rfl) dX5_readText_60) hD hS hA (fun M9 L10 H locs hP hD hS h => ?_)
              refine lv_goto (tgt := 11) hx hb dX5_readText_63 (by decide) ?_
              exact ih _ _ _ h _ _ hP hD hS ls (lv_sub hl [1, 2, 0] rfl)
            · have h := h.2 ct
              refine lv_iconst (v := (-1)) hx hb dX5_readText_54 (by decide) ?_
              exact rt_Wi hx hb hr hlk dX5_readText_55 (M7, L8) hP hD hS h
          · have h := h.2 ct
            refine lv_iconst (v := (-1)) hx hb dX5_readText_40 (by decide) ?_
            exact rt_Wi hx hb hr hlk dX5_readText_41 (M5, L6) hP hD hS h
        · have h := h.2 ct
          refine lv_iconst (v := 1) hx hb dX5_readText_28 (by decide) ?_
          refine lv_goto (tgt := 33) hx hb dX5_readText_29 (by decide) ?_
          refine lv_iload_n hx hb dX5_readText_33 rfl (lv_at hl 1 rfl) ?_
          refine wi_allM (rn_V (rest := []) (ci := 3) hx hb hml hown hT hl.1 hC hS hP hD 0 rfl rfl rfl ck_X5_177 (c_X5_readItem l G cs ts a H.size Mv Lv 1 z1 _ h) ⟨rfl, rfl, (Nat.le_of_ble_eq_true rfl), (Nat.le_of_ble_eq_true rfl)⟩ ⟨Nat.le_refl _, Nat.le_refl _⟩ rfl rfl (Nat.le_of_ble_eq_true rfl) dX5_readText_34) hD hS hA (fun r11 M12 L13 H locs hP hD hS h => ?_)
          refine lv_if_ne (tgt := 42) hx hb dX5_readText_37 (by decide) (fun ct => ?_) (fun ct => ?_)
          · have h := h.1 ct
            refine lv_aload_n hx hb dX5_readText_42 rfl (lv_at hl 0 rfl) ?_
            refine wv_allM (rn_V (rest := []) (ci := 3) hx hb hml hown hT hl.1 hC hS hP hD 0 rfl rfl rfl ck_X5_167 (c_X5_nextToken l G cs ts a H.size M12 L13  _ h) ⟨rfl, rfl, (Nat.le_of_ble_eq_true rfl), (Nat.le_of_ble_eq_true rfl)⟩ ⟨Nat.le_refl _, Nat.le_refl _⟩ rfl rfl (Nat.le_of_ble_eq_true rfl) dX5_readText_43) hD hS hA (fun M14 L15 H locs hP hD hS h => ?_)
            refine lv_aload_n hx hb dX5_readText_46 rfl (lv_at hl 0 rfl) ?_
            refine gf_X5_156 hx hb hT hown hK hP 0 rfl rfl dX5_readText_47 ?_
            refine lv_iconst (v := 4) hx hb dX5_readText_50 (by decide) ?_
            refine lv_icmp_eq (tgt := 56) hx hb dX5_readText_51 (by decide) (fun ct => ?_) (fun ct => ?_)
            · have h := h.1 ct
              refine lv_iinc (v := y2 + 1) (lv' := [(2, .int (y2 + 1)), (0, .ref (a 99)), (1, .int z1)]) hx hb dX5_readText_56 hl (k := 2) rfl rfl (by decide) rfl (fun ls hl => ?_)
              refine lv_aload_n hx hb dX5_readText_59 rfl (lv_at hl 1 rfl) ?_
              refine wv_allM (rn_V (rest := []) (ci := 3) hx hb hml hown hT hl.1 hC hS hP hD 0 rfl rfl rfl ck_X5_167 (c_X5_nextToken l G cs ts a H.size M14 L15  _ h) ⟨rfl, rfl, (Nat.le_of_ble_eq_true rfl), (Nat.le_of_ble_eq_true rfl)⟩ ⟨Nat.le_refl _, Nat.le_refl _⟩ rfl rfl (Nat.le_of_ble_eq_true rfl) dX5_readText_60) hD hS hA (fun M16 L17 H locs hP hD hS h => ?_)
              refine lv_goto (tgt := 11) hx hb dX5_readText_63 (by decide) ?_
              exact ih _ _ _ h _ _ hP hD hS ls (lv_sub hl [1, 2, 0] rfl)
            · have h := h.2 ct
              refine lv_iconst (v := (-1)) hx hb dX5_readText_54 (by decide) ?_
              exact rt_Wi hx hb hr hlk dX5_readText_55 (M14, L15) hP hD hS h
          · have h := h.2 ct
            refine lv_iconst (v := (-1)) hx hb dX5_readText_40 (by decide) ?_
            exact rt_Wi hx hb hr hlk dX5_readText_41 (M12, L13) hP hD hS h
      · have h := h.2 ct
        refine lv_aload_n hx hb dX5_readText_15 rfl (lv_at hl 0 rfl) ?_
        refine gf_X5_156 hx hb hT hown hK hP 0 rfl rfl dX5_readText_16 ?_
        refine lv_iconst (v := 3) hx hb dX5_readText_19 (by decide) ?_
        refine lv_icmp_eq (tgt := 66) hx hb dX5_readText_20 (by decide) (fun ct => ?_) (fun ct => ?_)
        · have h := h.1 ct
          exact hKK _ _ _ h _ _ hP hD hS ls (lv_sub hl [0, 1, 2] rfl)
        · have h := h.2 ct
          refine lv_aload_n hx hb dX5_readText_23 rfl (lv_at hl 0 rfl) ?_
          refine lv_iload_n hx hb dX5_readText_24 rfl (lv_at hl 2 rfl) ?_
          refine lv_if_ne (tgt := 32) hx hb dX5_readText_25 (by decide) (fun ct => ?_) (fun ct => ?_)
          · have h := h.1 ct
            refine lv_iconst (v := 0) hx hb dX5_readText_32 (by decide) ?_
            refine lv_iload_n hx hb dX5_readText_33 rfl (lv_at hl 1 rfl) ?_
            refine wi_allM (rn_V (rest := []) (ci := 3) hx hb hml hown hT hl.1 hC hS hP hD 0 rfl rfl rfl ck_X5_177 (c_X5_readItem l G cs ts a H.size Mv Lv 0 z1 _ h) ⟨rfl, rfl, (Nat.le_of_ble_eq_true rfl), (Nat.le_of_ble_eq_true rfl)⟩ ⟨Nat.le_refl _, Nat.le_refl _⟩ rfl rfl (Nat.le_of_ble_eq_true rfl) dX5_readText_34) hD hS hA (fun r18 M19 L20 H locs hP hD hS h => ?_)
            refine lv_if_ne (tgt := 42) hx hb dX5_readText_37 (by decide) (fun ct => ?_) (fun ct => ?_)
            · have h := h.1 ct
              refine lv_aload_n hx hb dX5_readText_42 rfl (lv_at hl 0 rfl) ?_
              refine wv_allM (rn_V (rest := []) (ci := 3) hx hb hml hown hT hl.1 hC hS hP hD 0 rfl rfl rfl ck_X5_167 (c_X5_nextToken l G cs ts a H.size M19 L20  _ h) ⟨rfl, rfl, (Nat.le_of_ble_eq_true rfl), (Nat.le_of_ble_eq_true rfl)⟩ ⟨Nat.le_refl _, Nat.le_refl _⟩ rfl rfl (Nat.le_of_ble_eq_true rfl) dX5_readText_43) hD hS hA (fun M21 L22 H locs hP hD hS h => ?_)
              refine lv_aload_n hx hb dX5_readText_46 rfl (lv_at hl 0 rfl) ?_
              refine gf_X5_156 hx hb hT hown hK hP 0 rfl rfl dX5_readText_47 ?_
              refine lv_iconst (v := 4) hx hb dX5_readText_50 (by decide) ?_
              refine lv_icmp_eq (tgt := 56) hx hb dX5_readText_51 (by decide) (fun ct => ?_) (fun ct => ?_)
              · have h := h.1 ct
                refine lv_iinc (v := y2 + 1) (lv' := [(2, .int (y2 + 1)), (0, .ref (a 99)), (1, .int z1)]) hx hb dX5_readText_56 hl (k := 2) rfl rfl (by decide) rfl (fun ls hl => ?_)
                refine lv_aload_n hx hb dX5_readText_59 rfl (lv_at hl 1 rfl) ?_
                refine wv_allM (rn_V (rest := []) (ci := 3) hx hb hml hown hT hl.1 hC hS hP hD 0 rfl rfl rfl ck_X5_167 (c_X5_nextToken l G cs ts a H.size M21 L22  _ h) ⟨rfl, rfl, (Nat.le_of_ble_eq_true rfl), (Nat.le_of_ble_eq_true rfl)⟩ ⟨Nat.le_refl _, Nat.le_refl _⟩ rfl rfl (Nat.le_of_ble_eq_true rfl) dX5_readText_60) hD hS hA (fun M23 L24 H locs hP hD hS h => ?_)
                refine lv_goto (tgt := 11) hx hb dX5_readText_63 (by decide) ?_
                exact ih _ _ _ h _ _ hP hD hS ls (lv_sub hl [1, 2, 0] rfl)
              · have h := h.2 ct
                refine lv_iconst (v := (-1)) hx hb dX5_readText_54 (by decide) ?_
                exact rt_Wi hx hb hr hlk dX5_readText_55 (M21, L22) hP hD hS h
            · have h := h.2 ct
              refine lv_iconst (v := (-1)) hx hb dX5_readText_40 (by decide) ?_
              exact rt_Wi hx hb hr hlk dX5_readText_41 (M19, L20) hP hD hS h
          · have h := h.2 ct
            refine lv_iconst (v := 1) hx hb dX5_readText_28 (by decide) ?_
            refine lv_goto (tgt := 33) hx hb dX5_readText_29 (by decide) ?_
            refine lv_iload_n hx hb dX5_readText_33 rfl (lv_at hl 1 rfl) ?_
            refine wi_allM (rn_V (rest := []) (ci := 3) hx hb hml hown hT hl.1 hC hS hP hD 0 rfl rfl rfl ck_X5_177 (c_X5_readItem l G cs ts a H.size Mv Lv 1 z1 _ h) ⟨rfl, rfl, (Nat.le_of_ble_eq_true rfl), (Nat.le_of_ble_eq_true rfl)⟩ ⟨Nat.le_refl _, Nat.le_refl _⟩ rfl rfl (Nat.le_of_ble_eq_true rfl) dX5_readText_34) hD hS hA (fun r25 M26 L27 H locs hP hD hS h => ?_)
            refine lv_if_ne (tgt := 42) hx hb dX5_readText_37 (by decide) (fun ct => ?_) (fun ct => ?_)
            · have h := h.1 ct
              refine lv_aload_n hx hb dX5_readText_42 rfl (lv_at hl 0 rfl) ?_
              refine wv_allM (rn_V (rest := []) (ci := 3) hx hb hml hown hT hl.1 hC hS hP hD 0 rfl rfl rfl ck_X5_167 (c_X5_nextToken l G cs ts a H.size M26 L27  _ h) ⟨rfl, rfl, (Nat.le_of_ble_eq_true rfl), (Nat.le_of_ble_eq_true rfl)⟩ ⟨Nat.le_refl _, Nat.le_refl _⟩ rfl rfl (Nat.le_of_ble_eq_true rfl) dX5_readText_43) hD hS hA (fun M28 L29 H locs hP hD hS h => ?_)
              refine lv_aload_n hx hb dX5_readText_46 rfl (lv_at hl 0 rfl) ?_
              refine gf_X5_156 hx hb hT hown hK hP 0 rfl rfl dX5_readText_47 ?_
              refine lv_iconst (v := 4) hx hb dX5_readText_50 (by decide) ?_
              refine lv_icmp_eq (tgt := 56) hx hb dX5_readText_51 (by decide) (fun ct => ?_) (fun ct => ?_)
              · have h := h.1 ct
                refine lv_iinc (v := y2 + 1) (lv' := [(2, .int (y2 + 1)), (0, .ref (a 99)), (1, .int z1)]) hx hb dX5_readText_56 hl (k := 2) rfl rfl (by decide) rfl (fun ls hl => ?_)
                refine lv_aload_n hx hb dX5_readText_59 rfl (lv_at hl 1 rfl) ?_
                refine wv_allM (rn_V (rest := []) (ci := 3) hx hb hml hown hT hl.1 hC hS hP hD 0 rfl rfl rfl ck_X5_167 (c_X5_nextToken l G cs ts a H.size M28 L29  _ h) ⟨rfl, rfl, (Nat.le_of_ble_eq_true rfl), (Nat.le_of_ble_eq_true rfl)⟩ ⟨Nat.le_refl _, Nat.le_refl _⟩ rfl rfl (Nat.le_of_ble_eq_true rfl) dX5_readText_60) hD hS hA (fun M30 L31 H locs hP hD hS h => ?_)
                refine lv_goto (tgt := 11) hx hb dX5_readText_63 (by decide) ?_
                exact ih _ _ _ h _ _ hP hD hS ls (lv_sub hl [1, 2, 0] rfl)
              · have h := h.2 ct
                refine lv_iconst (v := (-1)) hx hb dX5_readText_54 (by decide) ?_
                exact rt_Wi hx hb hr hlk dX5_readText_55 (M28, L29) hP hD hS h
            · have h := h.2 ct
              refine lv_iconst (v := (-1)) hx hb dX5_readText_40 (by decide) ?_
              exact rt_Wi hx hb hr hlk dX5_readText_41 (M26, L27) hP hD hS h
  refine lv_aload_n hx hb dX5_readText_0 rfl (lv_at hl 0 rfl) ?_
  refine lv_iconst (v := 0) hx hb dX5_readText_1 (by decide) ?_
  refine pf_X5_144 hx hb hT hown hK hP hD hS 0 rfl (Nat.le_of_ble_eq_true rfl) dX5_readText_2 (fun H locs hP hD hS => ?_)
  obtain ⟨M1, eM1⟩ : ∃ z : ZI, z = mu M 9 0 0 := ⟨_, rfl⟩
  have h := h M1 eM1
  have hP : va_P G vwCl (mdW a cs M1 L) H := by rw [eM1]; exact hP
  have hD : va_D A (mdW a cs M1 L) := by rw [eM1]; exact hD
  refine lv_iconst (v := 0) hx hb dX5_readText_5 (by decide) ?_
  refine lv_istore_n (lv' := [(2, .int 0), (0, .ref (a 99)), (1, .int x1)]) hx hb dX5_readText_6 rfl hl (by decide) rfl (fun ls hl => ?_)
  refine lv_aload_n hx hb dX5_readText_7 rfl (lv_at hl 1 rfl) ?_
  refine wv_allM (rn_V (rest := []) (ci := 3) hx hb hml hown hT hl.1 hC hS hP hD 0 rfl rfl rfl ck_X5_167 (c_X5_nextToken l G cs ts a H.size M1 L  _ h) ⟨rfl, rfl, (Nat.le_of_ble_eq_true rfl), (Nat.le_of_ble_eq_true rfl)⟩ ⟨Nat.le_refl _, Nat.le_refl _⟩ rfl rfl (Nat.le_of_ble_eq_true rfl) dX5_readText_8) hD hS hA (fun M2 L3 H locs hP hD hS h => ?_)
  obtain ⟨n35, h⟩ := h
  refine HL11 _ _ (fun M32 L33 v34 h H locs hP hD hS ls hl => ?_) n35 _ _ _ h _ _ hP hD hS ls (lv_sub hl [1, 2, 0] rfl)
  refine lv_iload_n hx hb dX5_readText_66 rfl (lv_at hl 2 rfl) ?_
  exact rt_Wi hx hb hr hlk dX5_readText_67 (M32, L33) hP hD hS h
abbrev rm_X5_read : Room := { frames := 7, cells := 0, slots := 0, locals := 174 }
set_option maxRecDepth 100000 in
set_option maxHeartbeats 4000000 in
theorem c_X5_read (l : Launch) (G : va_G) (cs ts : Nat → Nat) (a : Nat → Nat) (sz : Nat)  (M : ZI) (L : ZL)    (post : Int32 → ZI → ZL → Prop) (h : w_X5_read M L post) : Met l yX5_read [.code yX5_read cX5_read 1 (some .int)] rm_X5_read (va_Pc [.ref (a 99)] (CP G cs ts (mdW a cs M L) sz)) (va_Qi (fun (r : Int32) (u : ZI × ZL) => post r u.1 u.2) (CB G (va_A (mdW a cs M L) sz) (fun u => (mdW a cs u.1 u.2))) (va_A (mdW a cs M L) sz)) 0 0 (va_A (mdW a cs M L) sz) := by
  refine ax_W (Qc := fun A => va_Qi (fun (r : Int32) (u : ZI × ZL) => post r u.1 u.2) (CB G A (fun u => (mdW a cs u.1 u.2))) A) (by decide) (Nat.le_of_ble_eq_true rfl) sz ?_
  intro p e s m args below meth c A hx hb hr hlk hml hown hT hC hnm H locs hP hD hS ls hl
  have hK := hC.2.1
  have hA := hC.2.2
  have hl : lv_has ls 1 [(0, .ref (a 99))] := hl
  unfold w_X5_read at h
  refine lv_aload_n hx hb dX5_read_0 rfl (lv_at hl 0 rfl) ?_
  refine lv_iconst (v := 0) hx hb dX5_read_1 (by decide) ?_
  refine wi_allM (rn_V (rest := []) (ci := 3) hx hb hml hown hT hl.1 hC hS hP hD 0 rfl rfl rfl ck_X5_181 (c_X5_readText l G cs ts a H.size M L 0 _ h) ⟨rfl, rfl, (Nat.le_of_ble_eq_true rfl), (Nat.le_of_ble_eq_true rfl)⟩ ⟨Nat.le_refl _, Nat.le_refl _⟩ rfl rfl (Nat.le_of_ble_eq_true rfl) dX5_read_2) hD hS hA (fun r1 M2 L3 H locs hP hD hS h => ?_)
  refine lv_if_ge (tgt := 16) hx hb dX5_read_5 (by decide) (fun ct => ?_) (fun ct => ?_)
  · have h := h.1 ct
    refine lv_aload_n hx hb dX5_read_16 rfl (lv_at hl 0 rfl) ?_
    refine lv_iconst (v := 1) hx hb dX5_read_17 (by decide) ?_
    refine wi_allM (rn_V (rest := []) (ci := 3) hx hb hml hown hT hl.1 hC hS hP hD 0 rfl rfl rfl ck_X5_181 (c_X5_readText l G cs ts a H.size M2 L3 1 _ h) ⟨rfl, rfl, (Nat.le_of_ble_eq_true rfl), (Nat.le_of_ble_eq_true rfl)⟩ ⟨Nat.le_refl _, Nat.le_refl _⟩ rfl rfl (Nat.le_of_ble_eq_true rfl) dX5_read_18) hD hS hA (fun r4 M5 L6 H locs hP hD hS h => ?_)
    exact rt_Wi hx hb hr hlk dX5_read_21 (M5, L6) hP hD hS h
  · have h := h.2 ct
    refine lv_bipush (v := (-10)) hx hb dX5_read_8 (by decide) ?_
    refine lv_aload_n hx hb dX5_read_10 rfl (lv_at hl 0 rfl) ?_
    refine gf_X5_150 hx hb hT hown hK hP 0 rfl rfl dX5_read_11 ?_
    refine lv_isub hx hb dX5_read_14 ?_
    exact rt_Wi hx hb hr hlk dX5_read_15 (M2, L3) hP hD hS h
abbrev rm_X5_dark : Room := { frames := 2, cells := 0, slots := 0, locals := 46 }
set_option maxRecDepth 100000 in
set_option maxHeartbeats 4000000 in
theorem c_X5_dark (l : Launch) (G : va_G) (cs ts : Nat → Nat) (a : Nat → Nat) (sz : Nat)  (M : ZI) (L : ZL)   (x1 : Int32) (x2 : Int32) (post : Int32 → ZI → ZL → Prop) (h : w_X5_dark M L x1 x2 post) : Met l yX5_dark [.code yX5_dark cX5_dark 3 (some .int)] rm_X5_dark (va_Pc [.ref (a 99), .int x1, .int x2] (CP G cs ts (mdW a cs M L) sz)) (va_Qi (fun (r : Int32) (u : ZI × ZL) => post r u.1 u.2) (CB G (va_A (mdW a cs M L) sz) (fun u => (mdW a cs u.1 u.2))) (va_A (mdW a cs M L) sz)) 0 0 (va_A (mdW a cs M L) sz) := by
  refine ax_W (Qc := fun A => va_Qi (fun (r : Int32) (u : ZI × ZL) => post r u.1 u.2) (CB G A (fun u => (mdW a cs u.1 u.2))) A) (by decide) (Nat.le_of_ble_eq_true rfl) sz ?_
  intro p e s m args below meth c A hx hb hr hlk hml hown hT hC hnm H locs hP hD hS ls hl
  have hK := hC.2.1
  have hA := hC.2.2
  have hl : lv_has ls 3 [(0, .ref (a 99)), (1, .int x1), (2, .int x2)] := hl
  unfold w_X5_dark at h
  refine lv_iload_n hx hb dX5_dark_0 rfl (lv_at hl 1 rfl) ?_
  refine lv_iload_n hx hb dX5_dark_1 rfl (lv_at hl 2 rfl) ?_
  refine cl_Si (rn_S (rest := []) hx hb hml hown hT hl.1 ck_X5_66 (c_X5_isPlace l x1 x2 _ h) ⟨rfl, rfl, (Nat.le_of_ble_eq_true rfl), (Nat.le_of_ble_eq_true rfl)⟩ ⟨Nat.zero_le _, Nat.zero_le _⟩ rfl rfl (Nat.le_of_ble_eq_true rfl) dX5_dark_2) (fun r1 h => ?_)
  refine lv_if_eq (tgt := 24) hx hb dX5_dark_5 (by decide) (fun ct => ?_) (fun ct => ?_)
  · have h := h.1 ct
    refine lv_aload_n hx hb dX5_dark_24 rfl (lv_at hl 0 rfl) ?_
    refine wi_allM (rn_V (rest := []) (ci := 3) hx hb hml hown hT hl.1 hC hS hP hD 0 rfl rfl rfl ck_X5_110 (c_X5_bad l G cs ts a H.size M L  _ h) ⟨rfl, rfl, (Nat.le_of_ble_eq_true rfl), (Nat.le_of_ble_eq_true rfl)⟩ ⟨Nat.le_refl _, Nat.le_refl _⟩ rfl rfl (Nat.le_of_ble_eq_true rfl) dX5_dark_25) hD hS hA (fun r2 M3 L4 H locs hP hD hS h => ?_)
    exact rt_Wi hx hb hr hlk dX5_dark_28 (M3, L4) hP hD hS h
  · have h := h.2 ct
    refine lv_aload_n hx hb dX5_dark_8 rfl (lv_at hl 0 rfl) ?_
    refine gf_X5_7 hx hb hT hown hK hP 0 rfl rfl dX5_dark_9 ?_
    refine lv_iconst (v := 0) hx hb dX5_dark_12 (by decide) ?_
    refine lv_bipush (v := 8) hx hb dX5_dark_13 (by decide) ?_
    refine lv_iload_n hx hb dX5_dark_15 rfl (lv_at hl 2 rfl) ?_
    refine lv_imul hx hb dX5_dark_16 ?_
    refine lv_iadd hx hb dX5_dark_17 ?_
    refine lv_iload_n hx hb dX5_dark_18 rfl (lv_at hl 1 rfl) ?_
    refine lv_iadd hx hb dX5_dark_19 ?_
    obtain ⟨hi, h⟩ := h
    refine va_iald hx hb hK hP 1 0 rfl rfl hi dX5_dark_20 ?_
    refine lv_goto (tgt := 28) hx hb dX5_dark_21 (by decide) ?_
    exact rt_Wi hx hb hr hlk dX5_dark_28 (M, L) hP hD hS h
abbrev rm_X5_looks : Room := { frames := 2, cells := 0, slots := 0, locals := 49 }
set_option maxRecDepth 100000 in
set_option maxHeartbeats 4000000 in
theorem c_X5_looks (l : Launch) (G : va_G) (cs ts : Nat → Nat) (a : Nat → Nat) (sz : Nat)  (M : ZI) (L : ZL)   (x1 : Int32) (x2 : Int32) (post : Int32 → ZI → ZL → Prop) (h : w_X5_looks M L x1 x2 post) : Met l yX5_looks [.code yX5_looks cX5_looks 3 (some .int)] rm_X5_looks (va_Pc [.ref (a 99), .int x1, .int x2] (CP G cs ts (mdW a cs M L) sz)) (va_Qi (fun (r : Int32) (u : ZI × ZL) => post r u.1 u.2) (CB G (va_A (mdW a cs M L) sz) (fun u => (mdW a cs u.1 u.2))) (va_A (mdW a cs M L) sz)) 0 0 (va_A (mdW a cs M L) sz) := by
  refine ax_W (Qc := fun A => va_Qi (fun (r : Int32) (u : ZI × ZL) => post r u.1 u.2) (CB G A (fun u => (mdW a cs u.1 u.2))) A) (by decide) (Nat.le_of_ble_eq_true rfl) sz ?_
  intro p e s m args below meth c A hx hb hr hlk hml hown hT hC hnm H locs hP hD hS ls hl
  have hK := hC.2.1
  have hA := hC.2.2
  have hl : lv_has ls 3 [(0, .ref (a 99)), (1, .int x1), (2, .int x2)] := hl
  unfold w_X5_looks at h
  refine lv_iload_n hx hb dX5_looks_0 rfl (lv_at hl 1 rfl) ?_
  refine cl_Si (rn_S (rest := []) hx hb hml hown hT hl.1 ck_X5_62 (c_X5_isWhat l x1 _ h) ⟨rfl, rfl, (Nat.le_of_ble_eq_true rfl), (Nat.le_of_ble_eq_true rfl)⟩ ⟨Nat.zero_le _, Nat.zero_le _⟩ rfl rfl (Nat.le_of_ble_eq_true rfl) dX5_looks_1) (fun r1 h => ?_)
  refine lv_if_eq (tgt := 28) hx hb dX5_looks_4 (by decide) (fun ct => ?_) (fun ct => ?_)
  · have h := h.1 ct
    refine lv_aload_n hx hb dX5_looks_28 rfl (lv_at hl 0 rfl) ?_
    refine wi_allM (rn_V (rest := []) (ci := 3) hx hb hml hown hT hl.1 hC hS hP hD 0 rfl rfl rfl ck_X5_110 (c_X5_bad l G cs ts a H.size M L  _ h) ⟨rfl, rfl, (Nat.le_of_ble_eq_true rfl), (Nat.le_of_ble_eq_true rfl)⟩ ⟨Nat.le_refl _, Nat.le_refl _⟩ rfl rfl (Nat.le_of_ble_eq_true rfl) dX5_looks_29) hD hS hA (fun r2 M3 L4 H locs hP hD hS h => ?_)
    exact rt_Wi hx hb hr hlk dX5_looks_32 (M3, L4) hP hD hS h
  · have h := h.2 ct
    refine lv_iload_n hx hb dX5_looks_7 rfl (lv_at hl 2 rfl) ?_
    refine lv_i2l (v := x2.toInt64) hx hb dX5_looks_8 rfl ?_
    refine lv_lconst (v := 0) hx hb dX5_looks_9 (by decide) ?_
    refine ki_X5_70 hx hb hT hown dX5_looks_10 ?_
    refine cl_Si (rn_S (rest := []) hx hb hml hown hT hl.1 ck_X5_54 (c_X5_in l x2.toInt64 0 3 _ h) ⟨rfl, rfl, (Nat.le_of_ble_eq_true rfl), (Nat.le_of_ble_eq_true rfl)⟩ ⟨Nat.zero_le _, Nat.zero_le _⟩ rfl rfl (Nat.le_of_ble_eq_true rfl) dX5_looks_13) (fun r5 h => ?_)
    refine lv_if_eq (tgt := 28) hx hb dX5_looks_16 (by decide) (fun ct => ?_) (fun ct => ?_)
    · have h := h.1 ct
      refine lv_aload_n hx hb dX5_looks_28 rfl (lv_at hl 0 rfl) ?_
      refine wi_allM (rn_V (rest := []) (ci := 3) hx hb hml hown hT hl.1 hC hS hP hD 0 rfl rfl rfl ck_X5_110 (c_X5_bad l G cs ts a H.size M L  _ h) ⟨rfl, rfl, (Nat.le_of_ble_eq_true rfl), (Nat.le_of_ble_eq_true rfl)⟩ ⟨Nat.le_refl _, Nat.le_refl _⟩ rfl rfl (Nat.le_of_ble_eq_true rfl) dX5_looks_29) hD hS hA (fun r6 M7 L8 H locs hP hD hS h => ?_)
      exact rt_Wi hx hb hr hlk dX5_looks_32 (M7, L8) hP hD hS h
    · have h := h.2 ct
      refine lv_aload_n hx hb dX5_looks_19 rfl (lv_at hl 0 rfl) ?_
      refine lv_iload_n hx hb dX5_looks_20 rfl (lv_at hl 1 rfl) ?_
      refine lv_iload_n hx hb dX5_looks_21 rfl (lv_at hl 2 rfl) ?_
      refine wi_allM (rn_V (rest := []) (ci := 3) hx hb hml hown hT hl.1 hC hS hP hD 0 rfl rfl rfl ck_X5_90 (c_X5_looksOf l G cs ts a H.size M L x1 x2 _ h) ⟨rfl, rfl, (Nat.le_of_ble_eq_true rfl), (Nat.le_of_ble_eq_true rfl)⟩ ⟨Nat.le_refl _, Nat.le_refl _⟩ rfl rfl (Nat.le_of_ble_eq_true rfl) dX5_looks_22) hD hS hA (fun r9 M10 L11 H locs hP hD hS h => ?_)
      refine lv_goto (tgt := 32) hx hb dX5_looks_25 (by decide) ?_
      exact rt_Wi hx hb hr hlk dX5_looks_32 (M10, L11) hP hD hS h
abbrev rm_X5_alike : Room := { frames := 2, cells := 0, slots := 0, locals := 49 }
set_option maxRecDepth 100000 in
set_option maxHeartbeats 4000000 in
theorem c_X5_alike (l : Launch) (G : va_G) (cs ts : Nat → Nat) (a : Nat → Nat) (sz : Nat)  (M : ZI) (L : ZL)   (x1 : Int32) (post : Int32 → ZI → ZL → Prop) (h : w_X5_alike M L x1 post) : Met l yX5_alike [.code yX5_alike cX5_alike 4 (some .int)] rm_X5_alike (va_Pc [.ref (a 99), .int x1] (CP G cs ts (mdW a cs M L) sz)) (va_Qi (fun (r : Int32) (u : ZI × ZL) => post r u.1 u.2) (CB G (va_A (mdW a cs M L) sz) (fun u => (mdW a cs u.1 u.2))) (va_A (mdW a cs M L) sz)) 0 0 (va_A (mdW a cs M L) sz) := by
  refine ax_W (Qc := fun A => va_Qi (fun (r : Int32) (u : ZI × ZL) => post r u.1 u.2) (CB G A (fun u => (mdW a cs u.1 u.2))) A) (by decide) (Nat.le_of_ble_eq_true rfl) sz ?_
  intro p e s m args below meth c A hx hb hr hlk hml hown hT hC hnm H locs hP hD hS ls hl
  have hK := hC.2.1
  have hA := hC.2.2
  have hl : lv_has ls 4 [(0, .ref (a 99)), (1, .int x1)] := hl
  unfold w_X5_alike at h
  have HL16 : ∀  (z1 : Int32) (K : ZI → ZL → Int32 → Int32 → Prop), (∀ (Mv : ZI) (Lv : ZL) (y2 : Int32) (y3 : Int32), K Mv Lv y2 y3 → ∀ (H : Heap) (locs : List Loc), va_P G vwCl (mdW a cs Mv Lv) H → va_D A (mdW a cs Mv Lv) → va_S A s.heap H locs → ∀ ls : Array Slot, lv_has ls 4 [(0, .ref (a 99)), (1, .int z1), (2, .int y2), (3, .int y3)] → W p l e rm_X5_alike s m args below meth c H locs 0 0 (MQ below (va_Qi (fun (r : Int32) (u : ZI × ZL) => post r u.1 u.2) (CB G A (fun u => (mdW a cs u.1 u.2))) A) args s 0 0 A) (F0 m 52 ls [])) → ∀ (n : Nat) (Mv : ZI) (Lv : ZL) (y2 : Int32) (y3 : Int32), itF (w_X5_alike_L16 z1 post K) (fun _ _ _ _ => False) n Mv Lv y2 y3 → ∀ (H : Heap) (locs : List Loc), va_P G vwCl (mdW a cs Mv Lv) H → va_D A (mdW a cs Mv Lv) → va_S A s.heap H locs → ∀ ls : Array Slot, lv_has ls 4 [(0, .ref (a 99)), (1, .int z1), (2, .int y2), (3, .int y3)] → W p l e rm_X5_alike s m args below meth c H locs 0 0 (MQ below (va_Qi (fun (r : Int32) (u : ZI × ZL) => post r u.1 u.2) (CB G A (fun u => (mdW a cs u.1 u.2))) A) args s 0 0 A) (F0 m 16 ls []) := by
    intro z1 K hKK n
    induction n with
    | zero =>
      intro Mv Lv y2 y3 h
      exact absurd h id
    | succ n ih =>
      intro Mv Lv y2 y3 h H locs hP hD hS ls hl
      have h : w_X5_alike_L16 z1 post K (itF (w_X5_alike_L16 z1 post K) (fun _ _ _ _ => False) n) Mv Lv y2 y3 := h
      generalize itF (w_X5_alike_L16 z1 post K) (fun _ _ _ _ => False) n = rec at h ih
      unfold w_X5_alike_L16 at h
      refine lv_iload_n hx hb dX5_alike_16 rfl (lv_at hl 3 rfl) ?_
      refine lv_iconst (v := 4) hx hb dX5_alike_17 (by decide) ?_
      refine lv_icmp_ge (tgt := 52) hx hb dX5_alike_18 (by decide) (fun ct => ?_) (fun ct => ?_)
      · have h := h.1 ct
        exact hKK _ _ _ _ h _ _ hP hD hS ls (lv_sub hl [0, 1, 2, 3] rfl)
      · have h := h.2 ct
        refine lv_iload_n hx hb dX5_alike_21 rfl (lv_at hl 2 rfl) ?_
        refine lv_aload_n hx hb dX5_alike_22 rfl (lv_at hl 0 rfl) ?_
        refine lv_iload_n hx hb dX5_alike_23 rfl (lv_at hl 1 rfl) ?_
        refine lv_iload_n hx hb dX5_alike_24 rfl (lv_at hl 3 rfl) ?_
        refine wi_allM (rn_V (rest := [.int y2]) (ci := 3) hx hb hml hown hT hl.1 hC hS hP hD 0 rfl rfl rfl ck_X5_90 (c_X5_looksOf l G cs ts a H.size Mv Lv z1 y3 _ h) ⟨rfl, rfl, (Nat.le_of_ble_eq_true rfl), (Nat.le_of_ble_eq_true rfl)⟩ ⟨Nat.le_refl _, Nat.le_refl _⟩ rfl rfl (Nat.le_of_ble_eq_true rfl) dX5_alike_25) hD hS hA (fun r2 M3 L4 H locs hP hD hS h => ?_)
        refine lv_aload_n hx hb dX5_alike_28 rfl (lv_at hl 0 rfl) ?_
        refine lv_iload_n hx hb dX5_alike_29 rfl (lv_at hl 1 rfl) ?_
        refine lv_iconst (v := 0) hx hb dX5_alike_30 (by decide) ?_
        refine wi_allM (rn_V (rest := [.int r2, .int y2]) (ci := 3) hx hb hml hown hT hl.1 hC hS hP hD 0 rfl rfl rfl ck_X5_90 (c_X5_looksOf l G cs ts a H.size M3 L4 z1 0 _ h) ⟨rfl, rfl, (Nat.le_of_ble_eq_true rfl), (Nat.le_of_ble_eq_true rfl)⟩ ⟨Nat.le_refl _, Nat.le_refl _⟩ rfl rfl (Nat.le_of_ble_eq_true rfl) dX5_alike_31) hD hS hA (fun r5 M6 L7 H locs hP hD hS h => ?_)
        refine lv_icmp_ne (tgt := 43) hx hb dX5_alike_34 (by decide) (fun ct => ?_) (fun ct => ?_)
        · have h := h.1 ct
          refine lv_iconst (v := 0) hx hb dX5_alike_43 (by decide) ?_
          refine lv_ior hx hb dX5_alike_44 ?_
          refine lv_topi (fun v8 ev8 => ?_)
          have h := h v8 ev8
          refine lv_istore_n (lv' := [(2, .int v8), (0, .ref (a 99)), (1, .int z1), (3, .int y3)]) hx hb dX5_alike_45 rfl hl (by decide) rfl (fun ls hl => ?_)
          refine lv_iinc (v := y3 + 1) (lv' := [(3, .int (y3 + 1)), (2, .int v8), (0, .ref (a 99)), (1, .int z1)]) hx hb dX5_alike_46 hl (k := 3) rfl rfl (by decide) rfl (fun ls hl => ?_)
          refine lv_goto (tgt := 16) hx hb dX5_alike_49 (by decide) ?_
          exact ih _ _ _ _ h _ _ hP hD hS ls (lv_sub hl [2, 3, 1, 0] rfl)
        · have h := h.2 ct
          refine lv_iconst (v := 1) hx hb dX5_alike_37 (by decide) ?_
          refine lv_iload_n hx hb dX5_alike_38 rfl (lv_at hl 3 rfl) ?_
          refine lv_ishl hx hb dX5_alike_39 ?_
          refine lv_goto (tgt := 44) hx hb dX5_alike_40 (by decide) ?_
          refine lv_ior hx hb dX5_alike_44 ?_
          refine lv_topi (fun v9 ev9 => ?_)
          have h := h v9 ev9
          refine lv_istore_n (lv' := [(2, .int v9), (0, .ref (a 99)), (1, .int z1), (3, .int y3)]) hx hb dX5_alike_45 rfl hl (by decide) rfl (fun ls hl => ?_)
          refine lv_iinc (v := y3 + 1) (lv' := [(3, .int (y3 + 1)), (2, .int v9), (0, .ref (a 99)), (1, .int z1)]) hx hb dX5_alike_46 hl (k := 3) rfl rfl (by decide) rfl (fun ls hl => ?_)
          refine lv_goto (tgt := 16) hx hb dX5_alike_49 (by decide) ?_
          exact ih _ _ _ _ h _ _ hP hD hS ls (lv_sub hl [2, 3, 1, 0] rfl)
  refine lv_iload_n hx hb dX5_alike_0 rfl (lv_at hl 1 rfl) ?_
  refine cl_Si (rn_S (rest := []) hx hb hml hown hT hl.1 ck_X5_62 (c_X5_isWhat l x1 _ h) ⟨rfl, rfl, (Nat.le_of_ble_eq_true rfl), (Nat.le_of_ble_eq_true rfl)⟩ ⟨Nat.zero_le _, Nat.zero_le _⟩ rfl rfl (Nat.le_of_ble_eq_true rfl) dX5_alike_1) (fun r1 h => ?_)
  refine lv_if_ne (tgt := 12) hx hb dX5_alike_4 (by decide) (fun ct => ?_) (fun ct => ?_)
  · have h := h.1 ct
    refine lv_iconst (v := 0) hx hb dX5_alike_12 (by decide) ?_
    refine lv_istore_n (lv' := [(2, .int 0), (0, .ref (a 99)), (1, .int x1)]) hx hb dX5_alike_13 rfl hl (by decide) rfl (fun ls hl => ?_)
    refine lv_iconst (v := 0) hx hb dX5_alike_14 (by decide) ?_
    refine lv_istore_n (lv' := [(3, .int 0), (2, .int 0), (0, .ref (a 99)), (1, .int x1)]) hx hb dX5_alike_15 rfl hl (by decide) rfl (fun ls hl => ?_)
    obtain ⟨n14, h⟩ := h
    refine HL16 _ _ (fun M10 L11 v12 v13 h H locs hP hD hS ls hl => ?_) n14 _ _ _ _ h _ _ hP hD hS ls (lv_sub hl [2, 3, 1, 0] rfl)
    refine lv_iload_n hx hb dX5_alike_52 rfl (lv_at hl 2 rfl) ?_
    exact rt_Wi hx hb hr hlk dX5_alike_53 (M10, L11) hP hD hS h
  · have h := h.2 ct
    refine lv_aload_n hx hb dX5_alike_7 rfl (lv_at hl 0 rfl) ?_
    refine wi_allM (rn_V (rest := []) (ci := 3) hx hb hml hown hT hl.1 hC hS hP hD 0 rfl rfl rfl ck_X5_110 (c_X5_bad l G cs ts a H.size M L  _ h) ⟨rfl, rfl, (Nat.le_of_ble_eq_true rfl), (Nat.le_of_ble_eq_true rfl)⟩ ⟨Nat.le_refl _, Nat.le_refl _⟩ rfl rfl (Nat.le_of_ble_eq_true rfl) dX5_alike_8) hD hS hA (fun r15 M16 L17 H locs hP hD hS h => ?_)
    exact rt_Wi hx hb hr hlk dX5_alike_11 (M16, L17) hP hD hS h
abbrev rm_X5_adds : Room := { frames := 4, cells := 0, slots := 0, locals := 102 }
set_option maxRecDepth 100000 in
set_option maxHeartbeats 4000000 in
theorem c_X5_adds (l : Launch) (G : va_G) (cs ts : Nat → Nat) (a : Nat → Nat) (sz : Nat)  (M : ZI) (L : ZL)   (x1 : Int32) (x2 : Int32) (x3 : Int32) (x4 : Int32) (x5 : Int32) (post : Int32 → ZI → ZL → Prop) (h : w_X5_adds M L x1 x2 x3 x4 x5 post) : Met l yX5_adds [.code yX5_adds cX5_adds 6 (some .int)] rm_X5_adds (va_Pc [.ref (a 99), .int x1, .int x2, .int x3, .int x4, .int x5] (CP G cs ts (mdW a cs M L) sz)) (va_Qi (fun (r : Int32) (u : ZI × ZL) => post r u.1 u.2) (CB G (va_A (mdW a cs M L) sz) (fun u => (mdW a cs u.1 u.2))) (va_A (mdW a cs M L) sz)) 0 0 (va_A (mdW a cs M L) sz) := by
  refine ax_W (Qc := fun A => va_Qi (fun (r : Int32) (u : ZI × ZL) => post r u.1 u.2) (CB G A (fun u => (mdW a cs u.1 u.2))) A) (by decide) (Nat.le_of_ble_eq_true rfl) sz ?_
  intro p e s m args below meth c A hx hb hr hlk hml hown hT hC hnm H locs hP hD hS ls hl
  have hK := hC.2.1
  have hA := hC.2.2
  have hl : lv_has ls 6 [(0, .ref (a 99)), (1, .int x1), (2, .int x2), (3, .int x3), (4, .int x4), (5, .int x5)] := hl
  unfold w_X5_adds at h
  refine lv_iload_n hx hb dX5_adds_0 rfl (lv_at hl 1 rfl) ?_
  refine lv_iload_n hx hb dX5_adds_1 rfl (lv_at hl 2 rfl) ?_
  refine lv_iload_n hx hb dX5_adds_2 rfl (lv_at hl 3 rfl) ?_
  refine lv_iload hx hb dX5_adds_3 (lv_at hl 4 rfl) ?_
  refine lv_iload hx hb dX5_adds_5 (lv_at hl 5 rfl) ?_
  refine cl_Si (rn_S (rest := []) hx hb hml hown hT hl.1 ck_X5_125 (c_X5_isPrint l x1 x2 x3 x4 x5 _ h) ⟨rfl, rfl, (Nat.le_of_ble_eq_true rfl), (Nat.le_of_ble_eq_true rfl)⟩ ⟨Nat.zero_le _, Nat.zero_le _⟩ rfl rfl (Nat.le_of_ble_eq_true rfl) dX5_adds_7) (fun r1 h => ?_)
  refine lv_if_ne (tgt := 18) hx hb dX5_adds_10 (by decide) (fun ct => ?_) (fun ct => ?_)
  · have h := h.1 ct
    refine lv_aload_n hx hb dX5_adds_18 rfl (lv_at hl 0 rfl) ?_
    refine gf_X5_7 hx hb hT hown hK hP 0 rfl rfl dX5_adds_19 ?_
    refine lv_bipush (v := 64) hx hb dX5_adds_22 (by decide) ?_
    have hi : vp_in 64 99 := by unfold vp_in; decide
    refine va_iald hx hb hK hP 1 0 rfl rfl hi dX5_adds_24 ?_
    refine lv_if_ne (tgt := 33) hx hb dX5_adds_25 (by decide) (fun ct => ?_) (fun ct => ?_)
    · have h := h.1 ct
      refine lv_aload_n hx hb dX5_adds_33 rfl (lv_at hl 0 rfl) ?_
      refine lv_iload_n hx hb dX5_adds_34 rfl (lv_at hl 1 rfl) ?_
      refine lv_aload_n hx hb dX5_adds_35 rfl (lv_at hl 0 rfl) ?_
      refine lv_iload_n hx hb dX5_adds_36 rfl (lv_at hl 2 rfl) ?_
      refine lv_iload hx hb dX5_adds_37 (lv_at hl 5 rfl) ?_
      refine wi_allM (rn_V (rest := [.int x1, .ref (a 99)]) (ci := 3) hx hb hml hown hT hl.1 hC hS hP hD 0 rfl rfl rfl ck_X5_90 (c_X5_looksOf l G cs ts a H.size M L x2 x5 _ h) ⟨rfl, rfl, (Nat.le_of_ble_eq_true rfl), (Nat.le_of_ble_eq_true rfl)⟩ ⟨Nat.le_refl _, Nat.le_refl _⟩ rfl rfl (Nat.le_of_ble_eq_true rfl) dX5_adds_39) hD hS hA (fun r2 M3 L4 H locs hP hD hS h => ?_)
      refine lv_iload_n hx hb dX5_adds_42 rfl (lv_at hl 3 rfl) ?_
      refine lv_iload hx hb dX5_adds_43 (lv_at hl 4 rfl) ?_
      refine lv_aload_n hx hb dX5_adds_45 rfl (lv_at hl 0 rfl) ?_
      refine gf_X5_7 hx hb hT hown hK hP 0 rfl rfl dX5_adds_46 ?_
      refine lv_bipush (v := 64) hx hb dX5_adds_49 (by decide) ?_
      have hi : vp_in 64 99 := by unfold vp_in; decide
      refine va_iald hx hb hK hP 1 0 rfl rfl hi dX5_adds_51 ?_
      refine wv_allM (rn_V (rest := []) (ci := 3) hx hb hml hown hT hl.1 hC hS hP hD 0 rfl rfl rfl ck_X5_93 (c_X5_inkBy l G cs ts a H.size M3 L4 x1 r2 x3 x4 (M3 0 64) _ h) ⟨rfl, rfl, (Nat.le_of_ble_eq_true rfl), (Nat.le_of_ble_eq_true rfl)⟩ ⟨Nat.le_refl _, Nat.le_refl _⟩ rfl rfl (Nat.le_of_ble_eq_true rfl) dX5_adds_52) hD hS hA (fun M5 L6 H locs hP hD hS h => ?_)
      refine lv_aload_n hx hb dX5_adds_55 rfl (lv_at hl 0 rfl) ?_
      refine wi_allM (rn_V (rest := []) (ci := 3) hx hb hml hown hT hl.1 hC hS hP hD 0 rfl rfl rfl ck_X5_97 (c_X5_darker l G cs ts a H.size M5 L6  _ h) ⟨rfl, rfl, (Nat.le_of_ble_eq_true rfl), (Nat.le_of_ble_eq_true rfl)⟩ ⟨Nat.le_refl _, Nat.le_refl _⟩ rfl rfl (Nat.le_of_ble_eq_true rfl) dX5_adds_56) hD hS hA (fun r7 M8 L9 H locs hP hD hS h => ?_)
      exact rt_Wi hx hb hr hlk dX5_adds_59 (M8, L9) hP hD hS h
    · have h := h.2 ct
      refine lv_aload_n hx hb dX5_adds_28 rfl (lv_at hl 0 rfl) ?_
      refine wi_allM (rn_V (rest := []) (ci := 3) hx hb hml hown hT hl.1 hC hS hP hD 0 rfl rfl rfl ck_X5_129 (c_X5_no l G cs ts a H.size M L  _ h) ⟨rfl, rfl, (Nat.le_of_ble_eq_true rfl), (Nat.le_of_ble_eq_true rfl)⟩ ⟨Nat.le_refl _, Nat.le_refl _⟩ rfl rfl (Nat.le_of_ble_eq_true rfl) dX5_adds_29) hD hS hA (fun r10 M11 L12 H locs hP hD hS h => ?_)
      exact rt_Wi hx hb hr hlk dX5_adds_32 (M11, L12) hP hD hS h
  · have h := h.2 ct
    refine lv_aload_n hx hb dX5_adds_13 rfl (lv_at hl 0 rfl) ?_
    refine wi_allM (rn_V (rest := []) (ci := 3) hx hb hml hown hT hl.1 hC hS hP hD 0 rfl rfl rfl ck_X5_110 (c_X5_bad l G cs ts a H.size M L  _ h) ⟨rfl, rfl, (Nat.le_of_ble_eq_true rfl), (Nat.le_of_ble_eq_true rfl)⟩ ⟨Nat.le_refl _, Nat.le_refl _⟩ rfl rfl (Nat.le_of_ble_eq_true rfl) dX5_adds_14) hD hS hA (fun r13 M14 L15 H locs hP hD hS h => ?_)
    exact rt_Wi hx hb hr hlk dX5_adds_17 (M14, L15) hP hD hS h
abbrev rm_X5_force : Room := { frames := 2, cells := 0, slots := 0, locals := 45 }
set_option maxRecDepth 100000 in
set_option maxHeartbeats 4000000 in
theorem c_X5_force (l : Launch) (G : va_G) (cs ts : Nat → Nat) (a : Nat → Nat) (sz : Nat)  (M : ZI) (L : ZL)   (x1 : Int32) (x2 : Int32) (x3 : Int32) (post : Int32 → ZI → ZL → Prop) (h : w_X5_force M L x1 x2 x3 post) : Met l yX5_force [.code yX5_force cX5_force 4 (some .int)] rm_X5_force (va_Pc [.ref (a 99), .int x1, .int x2, .int x3] (CP G cs ts (mdW a cs M L) sz)) (va_Qi (fun (r : Int32) (u : ZI × ZL) => post r u.1 u.2) (CB G (va_A (mdW a cs M L) sz) (fun u => (mdW a cs u.1 u.2))) (va_A (mdW a cs M L) sz)) 0 0 (va_A (mdW a cs M L) sz) := by
  refine ax_W (Qc := fun A => va_Qi (fun (r : Int32) (u : ZI × ZL) => post r u.1 u.2) (CB G A (fun u => (mdW a cs u.1 u.2))) A) (by decide) (Nat.le_of_ble_eq_true rfl) sz ?_
  intro p e s m args below meth c A hx hb hr hlk hml hown hT hC hnm H locs hP hD hS ls hl
  have hK := hC.2.1
  have hA := hC.2.2
  have hl : lv_has ls 4 [(0, .ref (a 99)), (1, .int x1), (2, .int x2), (3, .int x3)] := hl
  unfold w_X5_force at h
  refine lv_iload_n hx hb dX5_force_0 rfl (lv_at hl 1 rfl) ?_
  refine lv_i2l (v := x1.toInt64) hx hb dX5_force_1 rfl ?_
  refine lv_lconst (v := 0) hx hb dX5_force_2 (by decide) ?_
  refine ki_X5_60 hx hb hT hown dX5_force_3 ?_
  refine cl_Si (rn_S (rest := []) hx hb hml hown hT hl.1 ck_X5_54 (c_X5_in l x1.toInt64 0 5 _ h) ⟨rfl, rfl, (Nat.le_of_ble_eq_true rfl), (Nat.le_of_ble_eq_true rfl)⟩ ⟨Nat.zero_le _, Nat.zero_le _⟩ rfl rfl (Nat.le_of_ble_eq_true rfl) dX5_force_6) (fun r1 h => ?_)
  refine lv_if_eq (tgt := 31) hx hb dX5_force_9 (by decide) (fun ct => ?_) (fun ct => ?_)
  · have h := h.1 ct
    refine lv_aload_n hx hb dX5_force_31 rfl (lv_at hl 0 rfl) ?_
    refine wi_allM (rn_V (rest := []) (ci := 3) hx hb hml hown hT hl.1 hC hS hP hD 0 rfl rfl rfl ck_X5_110 (c_X5_bad l G cs ts a H.size M L  _ h) ⟨rfl, rfl, (Nat.le_of_ble_eq_true rfl), (Nat.le_of_ble_eq_true rfl)⟩ ⟨Nat.le_refl _, Nat.le_refl _⟩ rfl rfl (Nat.le_of_ble_eq_true rfl) dX5_force_32) hD hS hA (fun r2 M3 L4 H locs hP hD hS h => ?_)
    exact rt_Wi hx hb hr hlk dX5_force_35 (M3, L4) hP hD hS h
  · have h := h.2 ct
    refine lv_iload_n hx hb dX5_force_12 rfl (lv_at hl 2 rfl) ?_
    refine lv_i2l (v := x2.toInt64) hx hb dX5_force_13 rfl ?_
    refine lv_lconst (v := 0) hx hb dX5_force_14 (by decide) ?_
    refine ki_X5_108 hx hb hT hown dX5_force_15 ?_
    refine cl_Si (rn_S (rest := []) hx hb hml hown hT hl.1 ck_X5_54 (c_X5_in l x2.toInt64 0 12 _ h) ⟨rfl, rfl, (Nat.le_of_ble_eq_true rfl), (Nat.le_of_ble_eq_true rfl)⟩ ⟨Nat.zero_le _, Nat.zero_le _⟩ rfl rfl (Nat.le_of_ble_eq_true rfl) dX5_force_18) (fun r5 h => ?_)
    refine lv_if_eq (tgt := 31) hx hb dX5_force_21 (by decide) (fun ct => ?_) (fun ct => ?_)
    · have h := h.1 ct
      refine lv_aload_n hx hb dX5_force_31 rfl (lv_at hl 0 rfl) ?_
      refine wi_allM (rn_V (rest := []) (ci := 3) hx hb hml hown hT hl.1 hC hS hP hD 0 rfl rfl rfl ck_X5_110 (c_X5_bad l G cs ts a H.size M L  _ h) ⟨rfl, rfl, (Nat.le_of_ble_eq_true rfl), (Nat.le_of_ble_eq_true rfl)⟩ ⟨Nat.le_refl _, Nat.le_refl _⟩ rfl rfl (Nat.le_of_ble_eq_true rfl) dX5_force_32) hD hS hA (fun r6 M7 L8 H locs hP hD hS h => ?_)
      exact rt_Wi hx hb hr hlk dX5_force_35 (M7, L8) hP hD hS h
    · have h := h.2 ct
      refine lv_iload_n hx hb dX5_force_24 rfl (lv_at hl 3 rfl) ?_
      refine cl_Si (rn_S (rest := []) hx hb hml hown hT hl.1 ck_X5_62 (c_X5_isWhat l x3 _ h) ⟨rfl, rfl, (Nat.le_of_ble_eq_true rfl), (Nat.le_of_ble_eq_true rfl)⟩ ⟨Nat.zero_le _, Nat.zero_le _⟩ rfl rfl (Nat.le_of_ble_eq_true rfl) dX5_force_25) (fun r9 h => ?_)
      refine lv_if_ne (tgt := 36) hx hb dX5_force_28 (by decide) (fun ct => ?_) (fun ct => ?_)
      · have h := h.1 ct
        refine lv_iload_n hx hb dX5_force_36 rfl (lv_at hl 3 rfl) ?_
        refine lv_if_ne (tgt := 48) hx hb dX5_force_37 (by decide) (fun ct => ?_) (fun ct => ?_)
        · have h := h.1 ct
          refine lv_iload_n hx hb dX5_force_48 rfl (lv_at hl 1 rfl) ?_
          refine lv_iload_n hx hb dX5_force_49 rfl (lv_at hl 2 rfl) ?_
          refine cl_Si (rn_S (rest := []) hx hb hml hown hT hl.1 ck_X5_101 (c_X5_takesBy l x1 x2 _ h) ⟨rfl, rfl, (Nat.le_of_ble_eq_true rfl), (Nat.le_of_ble_eq_true rfl)⟩ ⟨Nat.zero_le _, Nat.zero_le _⟩ rfl rfl (Nat.le_of_ble_eq_true rfl) dX5_force_50) (fun r10 h => ?_)
          exact rt_Wi hx hb hr hlk dX5_force_53 (M, L) hP hD hS h
        · have h := h.2 ct
          refine lv_iload_n hx hb dX5_force_40 rfl (lv_at hl 1 rfl) ?_
          refine lv_iload_n hx hb dX5_force_41 rfl (lv_at hl 2 rfl) ?_
          refine cl_Si (rn_S (rest := []) hx hb hml hown hT hl.1 ck_X5_83 (c_X5_darkBy l x1 x2 _ h) ⟨rfl, rfl, (Nat.le_of_ble_eq_true rfl), (Nat.le_of_ble_eq_true rfl)⟩ ⟨Nat.zero_le _, Nat.zero_le _⟩ rfl rfl (Nat.le_of_ble_eq_true rfl) dX5_force_42) (fun r11 h => ?_)
          refine lv_goto (tgt := 53) hx hb dX5_force_45 (by decide) ?_
          exact rt_Wi hx hb hr hlk dX5_force_53 (M, L) hP hD hS h
      · have h := h.2 ct
        refine lv_aload_n hx hb dX5_force_31 rfl (lv_at hl 0 rfl) ?_
        refine wi_allM (rn_V (rest := []) (ci := 3) hx hb hml hown hT hl.1 hC hS hP hD 0 rfl rfl rfl ck_X5_110 (c_X5_bad l G cs ts a H.size M L  _ h) ⟨rfl, rfl, (Nat.le_of_ble_eq_true rfl), (Nat.le_of_ble_eq_true rfl)⟩ ⟨Nat.le_refl _, Nat.le_refl _⟩ rfl rfl (Nat.le_of_ble_eq_true rfl) dX5_force_32) hD hS hA (fun r12 M13 L14 H locs hP hD hS h => ?_)
        exact rt_Wi hx hb hr hlk dX5_force_35 (M13, L14) hP hD hS h
abbrev rm_X5_fromOne : Room := { frames := 3, cells := 0, slots := 0, locals := 67 }
set_option maxRecDepth 100000 in
set_option maxHeartbeats 4000000 in
theorem c_X5_fromOne (l : Launch) (G : va_G) (cs ts : Nat → Nat) (a : Nat → Nat) (sz : Nat)  (M : ZI) (L : ZL)   (x1 : Int32) (x2 : Int32) (x3 : Int32) (post : Int32 → ZI → ZL → Prop) (h : w_X5_fromOne M L x1 x2 x3 post) : Met l yX5_fromOne [.code yX5_fromOne cX5_fromOne 4 (some .int)] rm_X5_fromOne (va_Pc [.ref (a 99), .int x1, .int x2, .int x3] (CP G cs ts (mdW a cs M L) sz)) (va_Qi (fun (r : Int32) (u : ZI × ZL) => post r u.1 u.2) (CB G (va_A (mdW a cs M L) sz) (fun u => (mdW a cs u.1 u.2))) (va_A (mdW a cs M L) sz)) 0 0 (va_A (mdW a cs M L) sz) := by
  refine ax_W (Qc := fun A => va_Qi (fun (r : Int32) (u : ZI × ZL) => post r u.1 u.2) (CB G A (fun u => (mdW a cs u.1 u.2))) A) (by decide) (Nat.le_of_ble_eq_true rfl) sz ?_
  intro p e s m args below meth c A hx hb hr hlk hml hown hT hC hnm H locs hP hD hS ls hl
  have hK := hC.2.1
  have hA := hC.2.2
  have hl : lv_has ls 4 [(0, .ref (a 99)), (1, .int x1), (2, .int x2), (3, .int x3)] := hl
  unfold w_X5_fromOne at h
  refine lv_iload_n hx hb dX5_fromOne_0 rfl (lv_at hl 1 rfl) ?_
  refine lv_i2l (v := x1.toInt64) hx hb dX5_fromOne_1 rfl ?_
  refine lv_lconst (v := 0) hx hb dX5_fromOne_2 (by decide) ?_
  refine ki_X5_60 hx hb hT hown dX5_fromOne_3 ?_
  refine cl_Si (rn_S (rest := []) hx hb hml hown hT hl.1 ck_X5_54 (c_X5_in l x1.toInt64 0 5 _ h) ⟨rfl, rfl, (Nat.le_of_ble_eq_true rfl), (Nat.le_of_ble_eq_true rfl)⟩ ⟨Nat.zero_le _, Nat.zero_le _⟩ rfl rfl (Nat.le_of_ble_eq_true rfl) dX5_fromOne_6) (fun r1 h => ?_)
  refine lv_if_eq (tgt := 36) hx hb dX5_fromOne_9 (by decide) (fun ct => ?_) (fun ct => ?_)
  · have h := h.1 ct
    refine lv_aload_n hx hb dX5_fromOne_36 rfl (lv_at hl 0 rfl) ?_
    refine wi_allM (rn_V (rest := []) (ci := 3) hx hb hml hown hT hl.1 hC hS hP hD 0 rfl rfl rfl ck_X5_110 (c_X5_bad l G cs ts a H.size M L  _ h) ⟨rfl, rfl, (Nat.le_of_ble_eq_true rfl), (Nat.le_of_ble_eq_true rfl)⟩ ⟨Nat.le_refl _, Nat.le_refl _⟩ rfl rfl (Nat.le_of_ble_eq_true rfl) dX5_fromOne_37) hD hS hA (fun r2 M3 L4 H locs hP hD hS h => ?_)
    exact rt_Wi hx hb hr hlk dX5_fromOne_40 (M3, L4) hP hD hS h
  · have h := h.2 ct
    refine lv_iload_n hx hb dX5_fromOne_12 rfl (lv_at hl 2 rfl) ?_
    refine lv_i2l (v := x2.toInt64) hx hb dX5_fromOne_13 rfl ?_
    refine lv_lconst (v := 0) hx hb dX5_fromOne_14 (by decide) ?_
    refine ki_X5_108 hx hb hT hown dX5_fromOne_15 ?_
    refine cl_Si (rn_S (rest := []) hx hb hml hown hT hl.1 ck_X5_54 (c_X5_in l x2.toInt64 0 12 _ h) ⟨rfl, rfl, (Nat.le_of_ble_eq_true rfl), (Nat.le_of_ble_eq_true rfl)⟩ ⟨Nat.zero_le _, Nat.zero_le _⟩ rfl rfl (Nat.le_of_ble_eq_true rfl) dX5_fromOne_18) (fun r5 h => ?_)
    refine lv_if_eq (tgt := 36) hx hb dX5_fromOne_21 (by decide) (fun ct => ?_) (fun ct => ?_)
    · have h := h.1 ct
      refine lv_aload_n hx hb dX5_fromOne_36 rfl (lv_at hl 0 rfl) ?_
      refine wi_allM (rn_V (rest := []) (ci := 3) hx hb hml hown hT hl.1 hC hS hP hD 0 rfl rfl rfl ck_X5_110 (c_X5_bad l G cs ts a H.size M L  _ h) ⟨rfl, rfl, (Nat.le_of_ble_eq_true rfl), (Nat.le_of_ble_eq_true rfl)⟩ ⟨Nat.le_refl _, Nat.le_refl _⟩ rfl rfl (Nat.le_of_ble_eq_true rfl) dX5_fromOne_37) hD hS hA (fun r6 M7 L8 H locs hP hD hS h => ?_)
      exact rt_Wi hx hb hr hlk dX5_fromOne_40 (M7, L8) hP hD hS h
    · have h := h.2 ct
      refine lv_iload_n hx hb dX5_fromOne_24 rfl (lv_at hl 3 rfl) ?_
      refine lv_i2l (v := x3.toInt64) hx hb dX5_fromOne_25 rfl ?_
      refine lv_lconst (v := 1) hx hb dX5_fromOne_26 (by decide) ?_
      refine ki_X5_185 hx hb hT hown dX5_fromOne_27 ?_
      refine cl_Si (rn_S (rest := []) hx hb hml hown hT hl.1 ck_X5_54 (c_X5_in l x3.toInt64 1 9 _ h) ⟨rfl, rfl, (Nat.le_of_ble_eq_true rfl), (Nat.le_of_ble_eq_true rfl)⟩ ⟨Nat.zero_le _, Nat.zero_le _⟩ rfl rfl (Nat.le_of_ble_eq_true rfl) dX5_fromOne_30) (fun r9 h => ?_)
      refine lv_if_ne (tgt := 41) hx hb dX5_fromOne_33 (by decide) (fun ct => ?_) (fun ct => ?_)
      · have h := h.1 ct
        refine lv_iload_n hx hb dX5_fromOne_41 rfl (lv_at hl 1 rfl) ?_
        refine lv_iload_n hx hb dX5_fromOne_42 rfl (lv_at hl 2 rfl) ?_
        refine lv_iload_n hx hb dX5_fromOne_43 rfl (lv_at hl 3 rfl) ?_
        refine cl_Si (rn_S (rest := []) hx hb hml hown hT hl.1 ck_X5_187 (c_X5_printsOf l x1 x2 x3 _ h) ⟨rfl, rfl, (Nat.le_of_ble_eq_true rfl), (Nat.le_of_ble_eq_true rfl)⟩ ⟨Nat.zero_le _, Nat.zero_le _⟩ rfl rfl (Nat.le_of_ble_eq_true rfl) dX5_fromOne_44) (fun r10 h => ?_)
        exact rt_Wi hx hb hr hlk dX5_fromOne_47 (M, L) hP hD hS h
      · have h := h.2 ct
        refine lv_aload_n hx hb dX5_fromOne_36 rfl (lv_at hl 0 rfl) ?_
        refine wi_allM (rn_V (rest := []) (ci := 3) hx hb hml hown hT hl.1 hC hS hP hD 0 rfl rfl rfl ck_X5_110 (c_X5_bad l G cs ts a H.size M L  _ h) ⟨rfl, rfl, (Nat.le_of_ble_eq_true rfl), (Nat.le_of_ble_eq_true rfl)⟩ ⟨Nat.le_refl _, Nat.le_refl _⟩ rfl rfl (Nat.le_of_ble_eq_true rfl) dX5_fromOne_37) hD hS hA (fun r11 M12 L13 H locs hP hD hS h => ?_)
        exact rt_Wi hx hb hr hlk dX5_fromOne_40 (M12, L13) hP hD hS h
abbrev rm_X5_dips : Room := { frames := 3, cells := 0, slots := 0, locals := 67 }
set_option maxRecDepth 100000 in
set_option maxHeartbeats 4000000 in
theorem c_X5_dips (l : Launch) (G : va_G) (cs ts : Nat → Nat) (a : Nat → Nat) (sz : Nat)  (M : ZI) (L : ZL)   (x1 : Int32) (x2 : Int32) (x3 : Int32) (x4 : Int32) (post : Int32 → ZI → ZL → Prop) (h : w_X5_dips M L x1 x2 x3 x4 post) : Met l yX5_dips [.code yX5_dips cX5_dips 6 (some .int)] rm_X5_dips (va_Pc [.ref (a 99), .int x1, .int x2, .int x3, .int x4] (CP G cs ts (mdW a cs M L) sz)) (va_Qi (fun (r : Int32) (u : ZI × ZL) => post r u.1 u.2) (CB G (va_A (mdW a cs M L) sz) (fun u => (mdW a cs u.1 u.2))) (va_A (mdW a cs M L) sz)) 0 0 (va_A (mdW a cs M L) sz) := by
  refine ax_W (Qc := fun A => va_Qi (fun (r : Int32) (u : ZI × ZL) => post r u.1 u.2) (CB G A (fun u => (mdW a cs u.1 u.2))) A) (by decide) (Nat.le_of_ble_eq_true rfl) sz ?_
  intro p e s m args below meth c A hx hb hr hlk hml hown hT hC hnm H locs hP hD hS ls hl
  have hK := hC.2.1
  have hA := hC.2.2
  have hl : lv_has ls 6 [(0, .ref (a 99)), (1, .int x1), (2, .int x2), (3, .int x3), (4, .int x4)] := hl
  unfold w_X5_dips at h
  refine lv_iload_n hx hb dX5_dips_0 rfl (lv_at hl 1 rfl) ?_
  refine lv_i2l (v := x1.toInt64) hx hb dX5_dips_1 rfl ?_
  refine lv_lconst (v := 0) hx hb dX5_dips_2 (by decide) ?_
  refine ki_X5_60 hx hb hT hown dX5_dips_3 ?_
  refine cl_Si (rn_S (rest := []) hx hb hml hown hT hl.1 ck_X5_54 (c_X5_in l x1.toInt64 0 5 _ h) ⟨rfl, rfl, (Nat.le_of_ble_eq_true rfl), (Nat.le_of_ble_eq_true rfl)⟩ ⟨Nat.zero_le _, Nat.zero_le _⟩ rfl rfl (Nat.le_of_ble_eq_true rfl) dX5_dips_6) (fun r1 h => ?_)
  refine lv_if_eq (tgt := 49) hx hb dX5_dips_9 (by decide) (fun ct => ?_) (fun ct => ?_)
  · have h := h.1 ct
    refine lv_aload_n hx hb dX5_dips_49 rfl (lv_at hl 0 rfl) ?_
    refine wi_allM (rn_V (rest := []) (ci := 3) hx hb hml hown hT hl.1 hC hS hP hD 0 rfl rfl rfl ck_X5_110 (c_X5_bad l G cs ts a H.size M L  _ h) ⟨rfl, rfl, (Nat.le_of_ble_eq_true rfl), (Nat.le_of_ble_eq_true rfl)⟩ ⟨Nat.le_refl _, Nat.le_refl _⟩ rfl rfl (Nat.le_of_ble_eq_true rfl) dX5_dips_50) hD hS hA (fun r2 M3 L4 H locs hP hD hS h => ?_)
    exact rt_Wi hx hb hr hlk dX5_dips_53 (M3, L4) hP hD hS h
  · have h := h.2 ct
    refine lv_iload_n hx hb dX5_dips_12 rfl (lv_at hl 2 rfl) ?_
    refine lv_i2l (v := x2.toInt64) hx hb dX5_dips_13 rfl ?_
    refine lv_lconst (v := 0) hx hb dX5_dips_14 (by decide) ?_
    refine ki_X5_108 hx hb hT hown dX5_dips_15 ?_
    refine cl_Si (rn_S (rest := []) hx hb hml hown hT hl.1 ck_X5_54 (c_X5_in l x2.toInt64 0 12 _ h) ⟨rfl, rfl, (Nat.le_of_ble_eq_true rfl), (Nat.le_of_ble_eq_true rfl)⟩ ⟨Nat.zero_le _, Nat.zero_le _⟩ rfl rfl (Nat.le_of_ble_eq_true rfl) dX5_dips_18) (fun r5 h => ?_)
    refine lv_if_eq (tgt := 49) hx hb dX5_dips_21 (by decide) (fun ct => ?_) (fun ct => ?_)
    · have h := h.1 ct
      refine lv_aload_n hx hb dX5_dips_49 rfl (lv_at hl 0 rfl) ?_
      refine wi_allM (rn_V (rest := []) (ci := 3) hx hb hml hown hT hl.1 hC hS hP hD 0 rfl rfl rfl ck_X5_110 (c_X5_bad l G cs ts a H.size M L  _ h) ⟨rfl, rfl, (Nat.le_of_ble_eq_true rfl), (Nat.le_of_ble_eq_true rfl)⟩ ⟨Nat.le_refl _, Nat.le_refl _⟩ rfl rfl (Nat.le_of_ble_eq_true rfl) dX5_dips_50) hD hS hA (fun r6 M7 L8 H locs hP hD hS h => ?_)
      exact rt_Wi hx hb hr hlk dX5_dips_53 (M7, L8) hP hD hS h
    · have h := h.2 ct
      refine lv_iload_n hx hb dX5_dips_24 rfl (lv_at hl 3 rfl) ?_
      refine lv_i2l (v := x3.toInt64) hx hb dX5_dips_25 rfl ?_
      refine lv_lconst (v := 1) hx hb dX5_dips_26 (by decide) ?_
      refine ki_X5_185 hx hb hT hown dX5_dips_27 ?_
      refine cl_Si (rn_S (rest := []) hx hb hml hown hT hl.1 ck_X5_54 (c_X5_in l x3.toInt64 1 9 _ h) ⟨rfl, rfl, (Nat.le_of_ble_eq_true rfl), (Nat.le_of_ble_eq_true rfl)⟩ ⟨Nat.zero_le _, Nat.zero_le _⟩ rfl rfl (Nat.le_of_ble_eq_true rfl) dX5_dips_30) (fun r9 h => ?_)
      refine lv_if_eq (tgt := 49) hx hb dX5_dips_33 (by decide) (fun ct => ?_) (fun ct => ?_)
      · have h := h.1 ct
        refine lv_aload_n hx hb dX5_dips_49 rfl (lv_at hl 0 rfl) ?_
        refine wi_allM (rn_V (rest := []) (ci := 3) hx hb hml hown hT hl.1 hC hS hP hD 0 rfl rfl rfl ck_X5_110 (c_X5_bad l G cs ts a H.size M L  _ h) ⟨rfl, rfl, (Nat.le_of_ble_eq_true rfl), (Nat.le_of_ble_eq_true rfl)⟩ ⟨Nat.le_refl _, Nat.le_refl _⟩ rfl rfl (Nat.le_of_ble_eq_true rfl) dX5_dips_50) hD hS hA (fun r10 M11 L12 H locs hP hD hS h => ?_)
        exact rt_Wi hx hb hr hlk dX5_dips_53 (M11, L12) hP hD hS h
      · have h := h.2 ct
        refine lv_iload hx hb dX5_dips_36 (lv_at hl 4 rfl) ?_
        refine lv_i2l (v := x4.toInt64) hx hb dX5_dips_38 rfl ?_
        refine lv_lconst (v := 0) hx hb dX5_dips_39 (by decide) ?_
        refine ki_X5_191 hx hb hT hown dX5_dips_40 ?_
        refine cl_Si (rn_S (rest := []) hx hb hml hown hT hl.1 ck_X5_54 (c_X5_in l x4.toInt64 0 60 _ h) ⟨rfl, rfl, (Nat.le_of_ble_eq_true rfl), (Nat.le_of_ble_eq_true rfl)⟩ ⟨Nat.zero_le _, Nat.zero_le _⟩ rfl rfl (Nat.le_of_ble_eq_true rfl) dX5_dips_43) (fun r13 h => ?_)
        refine lv_if_ne (tgt := 54) hx hb dX5_dips_46 (by decide) (fun ct => ?_) (fun ct => ?_)
        · have h := h.1 ct
          refine lv_iload_n hx hb dX5_dips_54 rfl (lv_at hl 1 rfl) ?_
          refine lv_iload_n hx hb dX5_dips_55 rfl (lv_at hl 2 rfl) ?_
          refine lv_iload_n hx hb dX5_dips_56 rfl (lv_at hl 3 rfl) ?_
          refine cl_Si (rn_S (rest := []) hx hb hml hown hT hl.1 ck_X5_187 (c_X5_printsOf l x1 x2 x3 _ h) ⟨rfl, rfl, (Nat.le_of_ble_eq_true rfl), (Nat.le_of_ble_eq_true rfl)⟩ ⟨Nat.zero_le _, Nat.zero_le _⟩ rfl rfl (Nat.le_of_ble_eq_true rfl) dX5_dips_57) (fun r14 h => ?_)
          refine lv_istore (lv' := [(5, .int r14), (0, .ref (a 99)), (1, .int x1), (2, .int x2), (3, .int x3), (4, .int x4)]) hx hb dX5_dips_60 hl (by decide) rfl (fun ls hl => ?_)
          refine lv_iload hx hb dX5_dips_62 (lv_at hl 5 rfl) ?_
          refine lv_if_ne (tgt := 71) hx hb dX5_dips_64 (by decide) (fun ct => ?_) (fun ct => ?_)
          · have h := h.1 ct
            refine lv_iload hx hb dX5_dips_71 (lv_at hl 0 rfl) ?_
            refine lv_if_ne (tgt := 80) hx hb dX5_dips_73 (by decide) (fun ct => ?_) (fun ct => ?_)
            · have h := h.1 ct
              refine lv_iload hx hb dX5_dips_80 (lv_at hl 5 rfl) ?_
              refine lv_iload hx hb dX5_dips_82 (lv_at hl 0 rfl) ?_
              refine lv_iadd hx hb dX5_dips_84 ?_
              refine lv_iconst (v := 1) hx hb dX5_dips_85 (by decide) ?_
              refine lv_isub hx hb dX5_dips_86 ?_
              refine lv_iload hx hb dX5_dips_87 (lv_at hl 0 rfl) ?_
              obtain ⟨hi, h⟩ := h
              refine lv_idiv hx hb dX5_dips_89 hi ?_
              exact rt_Wi hx hb hr hlk dX5_dips_90 (M, L) hP hD hS h
            · have h := h.2 ct
              refine lv_iconst (v := (-1)) hx hb dX5_dips_76 (by decide) ?_
              refine lv_goto (tgt := 90) hx hb dX5_dips_77 (by decide) ?_
              exact rt_Wi hx hb hr hlk dX5_dips_90 (M, L) hP hD hS h
          · have h := h.2 ct
            refine lv_iconst (v := 0) hx hb dX5_dips_67 (by decide) ?_
            refine lv_goto (tgt := 90) hx hb dX5_dips_68 (by decide) ?_
            exact rt_Wi hx hb hr hlk dX5_dips_90 (M, L) hP hD hS h
        · have h := h.2 ct
          refine lv_aload_n hx hb dX5_dips_49 rfl (lv_at hl 0 rfl) ?_
          refine wi_allM (rn_V (rest := []) (ci := 3) hx hb hml hown hT hl.1 hC hS hP hD 0 rfl rfl rfl ck_X5_110 (c_X5_bad l G cs ts a H.size M L  _ h) ⟨rfl, rfl, (Nat.le_of_ble_eq_true rfl), (Nat.le_of_ble_eq_true rfl)⟩ ⟨Nat.le_refl _, Nat.le_refl _⟩ rfl rfl (Nat.le_of_ble_eq_true rfl) dX5_dips_50) hD hS hA (fun r15 M16 L17 H locs hP hD hS h => ?_)
          exact rt_Wi hx hb hr hlk dX5_dips_53 (M16, L17) hP hD hS h
abbrev rm_X5_edge : Room := { frames := 2, cells := 0, slots := 0, locals := 45 }
set_option maxRecDepth 100000 in
set_option maxHeartbeats 4000000 in
theorem c_X5_edge (l : Launch) (G : va_G) (cs ts : Nat → Nat) (a : Nat → Nat) (sz : Nat)  (M : ZI) (L : ZL)   (x1 : Int32) (x2 : Int32) (x3 : Int32) (post : Int32 → ZI → ZL → Prop) (h : w_X5_edge M L x1 x2 x3 post) : Met l yX5_edge [.code yX5_edge cX5_edge 4 (some .int)] rm_X5_edge (va_Pc [.ref (a 99), .int x1, .int x2, .int x3] (CP G cs ts (mdW a cs M L) sz)) (va_Qi (fun (r : Int32) (u : ZI × ZL) => post r u.1 u.2) (CB G (va_A (mdW a cs M L) sz) (fun u => (mdW a cs u.1 u.2))) (va_A (mdW a cs M L) sz)) 0 0 (va_A (mdW a cs M L) sz) := by
  refine ax_W (Qc := fun A => va_Qi (fun (r : Int32) (u : ZI × ZL) => post r u.1 u.2) (CB G A (fun u => (mdW a cs u.1 u.2))) A) (by decide) (Nat.le_of_ble_eq_true rfl) sz ?_
  intro p e s m args below meth c A hx hb hr hlk hml hown hT hC hnm H locs hP hD hS ls hl
  have hK := hC.2.1
  have hA := hC.2.2
  have hl : lv_has ls 4 [(0, .ref (a 99)), (1, .int x1), (2, .int x2), (3, .int x3)] := hl
  unfold w_X5_edge at h
  refine lv_iload_n hx hb dX5_edge_0 rfl (lv_at hl 1 rfl) ?_
  refine lv_i2l (v := x1.toInt64) hx hb dX5_edge_1 rfl ?_
  refine ki_X5_193 hx hb hT hown dX5_edge_2 ?_
  refine ki_X5_195 hx hb hT hown dX5_edge_5 ?_
  refine cl_Si (rn_S (rest := []) hx hb hml hown hT hl.1 ck_X5_54 (c_X5_in l x1.toInt64 4 99 _ h) ⟨rfl, rfl, (Nat.le_of_ble_eq_true rfl), (Nat.le_of_ble_eq_true rfl)⟩ ⟨Nat.zero_le _, Nat.zero_le _⟩ rfl rfl (Nat.le_of_ble_eq_true rfl) dX5_edge_8) (fun r1 h => ?_)
  refine lv_if_eq (tgt := 33) hx hb dX5_edge_11 (by decide) (fun ct => ?_) (fun ct => ?_)
  · have h := h.1 ct
    refine lv_aload_n hx hb dX5_edge_33 rfl (lv_at hl 0 rfl) ?_
    refine wi_allM (rn_V (rest := []) (ci := 3) hx hb hml hown hT hl.1 hC hS hP hD 0 rfl rfl rfl ck_X5_110 (c_X5_bad l G cs ts a H.size M L  _ h) ⟨rfl, rfl, (Nat.le_of_ble_eq_true rfl), (Nat.le_of_ble_eq_true rfl)⟩ ⟨Nat.le_refl _, Nat.le_refl _⟩ rfl rfl (Nat.le_of_ble_eq_true rfl) dX5_edge_34) hD hS hA (fun r2 M3 L4 H locs hP hD hS h => ?_)
    exact rt_Wi hx hb hr hlk dX5_edge_37 (M3, L4) hP hD hS h
  · have h := h.2 ct
    refine lv_iload_n hx hb dX5_edge_14 rfl (lv_at hl 2 rfl) ?_
    refine lv_i2l (v := x2.toInt64) hx hb dX5_edge_15 rfl ?_
    refine lv_lconst (v := 0) hx hb dX5_edge_16 (by decide) ?_
    refine ki_X5_185 hx hb hT hown dX5_edge_17 ?_
    refine cl_Si (rn_S (rest := []) hx hb hml hown hT hl.1 ck_X5_54 (c_X5_in l x2.toInt64 0 9 _ h) ⟨rfl, rfl, (Nat.le_of_ble_eq_true rfl), (Nat.le_of_ble_eq_true rfl)⟩ ⟨Nat.zero_le _, Nat.zero_le _⟩ rfl rfl (Nat.le_of_ble_eq_true rfl) dX5_edge_20) (fun r5 h => ?_)
    refine lv_if_eq (tgt := 33) hx hb dX5_edge_23 (by decide) (fun ct => ?_) (fun ct => ?_)
    · have h := h.1 ct
      refine lv_aload_n hx hb dX5_edge_33 rfl (lv_at hl 0 rfl) ?_
      refine wi_allM (rn_V (rest := []) (ci := 3) hx hb hml hown hT hl.1 hC hS hP hD 0 rfl rfl rfl ck_X5_110 (c_X5_bad l G cs ts a H.size M L  _ h) ⟨rfl, rfl, (Nat.le_of_ble_eq_true rfl), (Nat.le_of_ble_eq_true rfl)⟩ ⟨Nat.le_refl _, Nat.le_refl _⟩ rfl rfl (Nat.le_of_ble_eq_true rfl) dX5_edge_34) hD hS hA (fun r6 M7 L8 H locs hP hD hS h => ?_)
      exact rt_Wi hx hb hr hlk dX5_edge_37 (M7, L8) hP hD hS h
    · have h := h.2 ct
      refine lv_iload_n hx hb dX5_edge_26 rfl (lv_at hl 3 rfl) ?_
      refine cl_Si (rn_S (rest := []) hx hb hml hown hT hl.1 ck_X5_62 (c_X5_isWhat l x3 _ h) ⟨rfl, rfl, (Nat.le_of_ble_eq_true rfl), (Nat.le_of_ble_eq_true rfl)⟩ ⟨Nat.zero_le _, Nat.zero_le _⟩ rfl rfl (Nat.le_of_ble_eq_true rfl) dX5_edge_27) (fun r9 h => ?_)
      refine lv_if_ne (tgt := 38) hx hb dX5_edge_30 (by decide) (fun ct => ?_) (fun ct => ?_)
      · have h := h.1 ct
        refine lv_iload_n hx hb dX5_edge_38 rfl (lv_at hl 3 rfl) ?_
        refine lv_if_ne (tgt := 52) hx hb dX5_edge_39 (by decide) (fun ct => ?_) (fun ct => ?_)
        · have h := h.1 ct
          refine lv_iload_n hx hb dX5_edge_52 rfl (lv_at hl 1 rfl) ?_
          refine lv_iload_n hx hb dX5_edge_53 rfl (lv_at hl 2 rfl) ?_
          refine cl_Si (rn_S (rest := []) hx hb hml hown hT hl.1 ck_X5_197 (c_X5_leftOf l x1 x2 _ h) ⟨rfl, rfl, (Nat.le_of_ble_eq_true rfl), (Nat.le_of_ble_eq_true rfl)⟩ ⟨Nat.zero_le _, Nat.zero_le _⟩ rfl rfl (Nat.le_of_ble_eq_true rfl) dX5_edge_54) (fun r10 h => ?_)
          exact rt_Wi hx hb hr hlk dX5_edge_57 (M, L) hP hD hS h
        · have h := h.2 ct
          refine lv_iload_n hx hb dX5_edge_42 rfl (lv_at hl 1 rfl) ?_
          refine lv_iload_n hx hb dX5_edge_43 rfl (lv_at hl 2 rfl) ?_
          refine lv_iadd hx hb dX5_edge_44 ?_
          refine lv_iconst (v := 4) hx hb dX5_edge_45 (by decide) ?_
          refine lv_iload_n hx hb dX5_edge_46 rfl (lv_at hl 2 rfl) ?_
          refine lv_iadd hx hb dX5_edge_47 ?_
          obtain ⟨hi, h⟩ := h
          refine lv_idiv hx hb dX5_edge_48 hi ?_
          refine lv_goto (tgt := 57) hx hb dX5_edge_49 (by decide) ?_
          exact rt_Wi hx hb hr hlk dX5_edge_57 (M, L) hP hD hS h
      · have h := h.2 ct
        refine lv_aload_n hx hb dX5_edge_33 rfl (lv_at hl 0 rfl) ?_
        refine wi_allM (rn_V (rest := []) (ci := 3) hx hb hml hown hT hl.1 hC hS hP hD 0 rfl rfl rfl ck_X5_110 (c_X5_bad l G cs ts a H.size M L  _ h) ⟨rfl, rfl, (Nat.le_of_ble_eq_true rfl), (Nat.le_of_ble_eq_true rfl)⟩ ⟨Nat.le_refl _, Nat.le_refl _⟩ rfl rfl (Nat.le_of_ble_eq_true rfl) dX5_edge_34) hD hS hA (fun r11 M12 L13 H locs hP hD hS h => ?_)
        exact rt_Wi hx hb hr hlk dX5_edge_37 (M12, L13) hP hD hS h
abbrev rm_X5_gap : Room := { frames := 1, cells := 0, slots := 0, locals := 25 }
set_option maxRecDepth 100000 in
set_option maxHeartbeats 4000000 in
theorem c_X5_gap (l : Launch) (G : va_G) (cs ts : Nat → Nat) (a : Nat → Nat) (sz : Nat)  (M : ZI) (L : ZL)   (x1 : Int32) (post : Int32 → ZI → ZL → Prop) (h : w_X5_gap M L x1 post) : Met l yX5_gap [.code yX5_gap cX5_gap 4 (some .int)] rm_X5_gap (va_Pc [.ref (a 99), .int x1] (CP G cs ts (mdW a cs M L) sz)) (va_Qi (fun (r : Int32) (u : ZI × ZL) => post r u.1 u.2) (CB G (va_A (mdW a cs M L) sz) (fun u => (mdW a cs u.1 u.2))) (va_A (mdW a cs M L) sz)) 0 0 (va_A (mdW a cs M L) sz) := by
  refine ax_W (Qc := fun A => va_Qi (fun (r : Int32) (u : ZI × ZL) => post r u.1 u.2) (CB G A (fun u => (mdW a cs u.1 u.2))) A) (by decide) (Nat.le_of_ble_eq_true rfl) sz ?_
  intro p e s m args below meth c A hx hb hr hlk hml hown hT hC hnm H locs hP hD hS ls hl
  have hK := hC.2.1
  have hA := hC.2.2
  have hl : lv_has ls 4 [(0, .ref (a 99)), (1, .int x1)] := hl
  unfold w_X5_gap at h
  have HL23 : ∀ (Mf : ZI) (Lf : ZL) (z1 : Int32) (K : Int32 → Int32 → Prop), (∀  (y2 : Int32) (y3 : Int32), K y2 y3 → ∀ (H : Heap) (locs : List Loc), va_P G vwCl (mdW a cs Mf Lf) H → va_D A (mdW a cs Mf Lf) → va_S A s.heap H locs → ∀ ls : Array Slot, lv_has ls 4 [(0, .ref (a 99)), (1, .int z1), (2, .int y2), (3, .int y3)] → W p l e rm_X5_gap s m args below meth c H locs 0 0 (MQ below (va_Qi (fun (r : Int32) (u : ZI × ZL) => post r u.1 u.2) (CB G A (fun u => (mdW a cs u.1 u.2))) A) args s 0 0 A) (F0 m 54 ls [])) → ∀ (n : Nat)  (y2 : Int32) (y3 : Int32), itF (w_X5_gap_L23 Mf Lf z1 post K) (fun _ _ => False) n y2 y3 → ∀ (H : Heap) (locs : List Loc), va_P G vwCl (mdW a cs Mf Lf) H → va_D A (mdW a cs Mf Lf) → va_S A s.heap H locs → ∀ ls : Array Slot, lv_has ls 4 [(0, .ref (a 99)), (1, .int z1), (2, .int y2), (3, .int y3)] → W p l e rm_X5_gap s m args below meth c H locs 0 0 (MQ below (va_Qi (fun (r : Int32) (u : ZI × ZL) => post r u.1 u.2) (CB G A (fun u => (mdW a cs u.1 u.2))) A) args s 0 0 A) (F0 m 23 ls []) := by
    intro Mf Lf z1 K hKK n
    induction n with
    | zero =>
      intro y2 y3 h
      exact absurd h id
    | succ n ih =>
      intro y2 y3 h H locs hP hD hS ls hl
      have h : w_X5_gap_L23 Mf Lf z1 post K (itF (w_X5_gap_L23 Mf Lf z1 post K) (fun _ _ => False) n) y2 y3 := h
      generalize itF (w_X5_gap_L23 Mf Lf z1 post K) (fun _ _ => False) n = rec at h ih
      unfold w_X5_gap_L23 at h
      refine lv_iload_n hx hb dX5_gap_23 rfl (lv_at hl 3 rfl) ?_
      refine lv_bipush (v := 9) hx hb dX5_gap_24 (by decide) ?_
      refine lv_icmp_gt (tgt := 54) hx hb dX5_gap_26 (by decide) (fun ct => ?_) (fun ct => ?_)
      · have h := h.1 ct
        exact hKK _ _ h _ _ hP hD hS ls (lv_sub hl [0, 1, 2, 3] rfl)
      · have h := h.2 ct
        refine lv_iload_n hx hb dX5_gap_29 rfl (lv_at hl 1 rfl) ?_
        refine lv_iload_n hx hb dX5_gap_30 rfl (lv_at hl 3 rfl) ?_
        refine cl_Si (rn_S (rest := []) hx hb hml hown hT hl.1 ck_X5_197 (c_X5_leftOf l z1 y3 _ h) ⟨rfl, rfl, (Nat.le_of_ble_eq_true rfl), (Nat.le_of_ble_eq_true rfl)⟩ ⟨Nat.zero_le _, Nat.zero_le _⟩ rfl rfl (Nat.le_of_ble_eq_true rfl) dX5_gap_31) (fun r2 h => ?_)
        refine lv_iload_n hx hb dX5_gap_34 rfl (lv_at hl 1 rfl) ?_
        refine lv_iload_n hx hb dX5_gap_35 rfl (lv_at hl 2 rfl) ?_
        refine cl_Si (rn_S (rest := [.int r2]) hx hb hml hown hT hl.1 ck_X5_197 (c_X5_leftOf l z1 y2 _ h) ⟨rfl, rfl, (Nat.le_of_ble_eq_true rfl), (Nat.le_of_ble_eq_true rfl)⟩ ⟨Nat.zero_le _, Nat.zero_le _⟩ rfl rfl (Nat.le_of_ble_eq_true rfl) dX5_gap_36) (fun r3 h => ?_)
        refine lv_icmp_ge (tgt := 46) hx hb dX5_gap_39 (by decide) (fun ct => ?_) (fun ct => ?_)
        · have h := h.1 ct
          refine lv_iload_n hx hb dX5_gap_46 rfl (lv_at hl 2 rfl) ?_
          refine lv_istore_n (lv' := [(2, .int y2), (0, .ref (a 99)), (1, .int z1), (3, .int y3)]) hx hb dX5_gap_47 rfl hl (by decide) rfl (fun ls hl => ?_)
          refine lv_iinc (v := y3 + 1) (lv' := [(3, .int (y3 + 1)), (2, .int y2), (0, .ref (a 99)), (1, .int z1)]) hx hb dX5_gap_48 hl (k := 3) rfl rfl (by decide) rfl (fun ls hl => ?_)
          refine lv_goto (tgt := 23) hx hb dX5_gap_51 (by decide) ?_
          exact ih _ _ h _ _ hP hD hS ls (lv_sub hl [2, 3, 1, 0] rfl)
        · have h := h.2 ct
          refine lv_iload_n hx hb dX5_gap_42 rfl (lv_at hl 3 rfl) ?_
          refine lv_goto (tgt := 47) hx hb dX5_gap_43 (by decide) ?_
          refine lv_istore_n (lv' := [(2, .int y3), (0, .ref (a 99)), (1, .int z1), (3, .int y3)]) hx hb dX5_gap_47 rfl hl (by decide) rfl (fun ls hl => ?_)
          refine lv_iinc (v := y3 + 1) (lv' := [(3, .int (y3 + 1)), (2, .int y3), (0, .ref (a 99)), (1, .int z1)]) hx hb dX5_gap_48 hl (k := 3) rfl rfl (by decide) rfl (fun ls hl => ?_)
          refine lv_goto (tgt := 23) hx hb dX5_gap_51 (by decide) ?_
          exact ih _ _ h _ _ hP hD hS ls (lv_sub hl [2, 3, 1, 0] rfl)
  refine lv_iload_n hx hb dX5_gap_0 rfl (lv_at hl 1 rfl) ?_
  refine lv_i2l (v := x1.toInt64) hx hb dX5_gap_1 rfl ?_
  refine ki_X5_193 hx hb hT hown dX5_gap_2 ?_
  refine ki_X5_195 hx hb hT hown dX5_gap_5 ?_
  refine cl_Si (rn_S (rest := []) hx hb hml hown hT hl.1 ck_X5_54 (c_X5_in l x1.toInt64 4 99 _ h) ⟨rfl, rfl, (Nat.le_of_ble_eq_true rfl), (Nat.le_of_ble_eq_true rfl)⟩ ⟨Nat.zero_le _, Nat.zero_le _⟩ rfl rfl (Nat.le_of_ble_eq_true rfl) dX5_gap_8) (fun r1 h => ?_)
  refine lv_if_ne (tgt := 19) hx hb dX5_gap_11 (by decide) (fun ct => ?_) (fun ct => ?_)
  · have h := h.1 ct
    refine lv_iconst (v := 0) hx hb dX5_gap_19 (by decide) ?_
    refine lv_istore_n (lv' := [(2, .int 0), (0, .ref (a 99)), (1, .int x1)]) hx hb dX5_gap_20 rfl hl (by decide) rfl (fun ls hl => ?_)
    refine lv_iconst (v := 1) hx hb dX5_gap_21 (by decide) ?_
    refine lv_istore_n (lv' := [(3, .int 1), (2, .int 0), (0, .ref (a 99)), (1, .int x1)]) hx hb dX5_gap_22 rfl hl (by decide) rfl (fun ls hl => ?_)
    obtain ⟨n6, h⟩ := h
    refine HL23 _ _ _ _ (fun v4 v5 h H locs hP hD hS ls hl => ?_) n6 _ _ h _ _ hP hD hS ls (lv_sub hl [2, 3, 1, 0] rfl)
    refine lv_iload_n hx hb dX5_gap_54 rfl (lv_at hl 2 rfl) ?_
    exact rt_Wi hx hb hr hlk dX5_gap_55 (M, L) hP hD hS h
  · have h := h.2 ct
    refine lv_aload_n hx hb dX5_gap_14 rfl (lv_at hl 0 rfl) ?_
    refine wi_allM (rn_V (rest := []) (ci := 3) hx hb hml hown hT hl.1 hC hS hP hD 0 rfl rfl rfl ck_X5_110 (c_X5_bad l G cs ts a H.size M L  _ h) ⟨rfl, rfl, (Nat.le_of_ble_eq_true rfl), (Nat.le_of_ble_eq_true rfl)⟩ ⟨Nat.le_refl _, Nat.le_refl _⟩ rfl rfl (Nat.le_of_ble_eq_true rfl) dX5_gap_15) hD hS hA (fun r7 M8 L9 H locs hP hD hS h => ?_)
    exact rt_Wi hx hb hr hlk dX5_gap_18 (M8, L9) hP hD hS h
abbrev rm_X5_hit : Room := { frames := 2, cells := 0, slots := 0, locals := 50 }
set_option maxRecDepth 100000 in
set_option maxHeartbeats 4000000 in
theorem c_X5_hit (l : Launch) (G : va_G) (cs ts : Nat → Nat) (a : Nat → Nat) (sz : Nat)  (M : ZI) (L : ZL)   (x1 : Int32) (x2 : Int32) (post : Int32 → ZI → ZL → Prop) (h : w_X5_hit M L x1 x2 post) : Met l yX5_hit [.code yX5_hit cX5_hit 12 (some .int)] rm_X5_hit (va_Pc [.ref (a 99), .int x1, .int x2] (CP G cs ts (mdW a cs M L) sz)) (va_Qi (fun (r : Int32) (u : ZI × ZL) => post r u.1 u.2) (CB G (va_A (mdW a cs M L) sz) (fun u => (mdW a cs u.1 u.2))) (va_A (mdW a cs M L) sz)) 0 0 (va_A (mdW a cs M L) sz) := by
  refine ax_W (Qc := fun A => va_Qi (fun (r : Int32) (u : ZI × ZL) => post r u.1 u.2) (CB G A (fun u => (mdW a cs u.1 u.2))) A) (by decide) (Nat.le_of_ble_eq_true rfl) sz ?_
  intro p e s m args below meth c A hx hb hr hlk hml hown hT hC hnm H locs hP hD hS ls hl
  have hK := hC.2.1
  have hA := hC.2.2
  have hl : lv_has ls 12 [(0, .ref (a 99)), (1, .int x1), (2, .int x2)] := hl
  unfold w_X5_hit at h
  have HL70 : ∀ (Mf : ZI) (Lf : ZL) (z1 : Int32) (z2 : Int32) (z3 : Int32) (z4 : Int32) (z5 : Int32) (z6 : Int32) (z7 : Int32) (z8 : Int32) (z9 : Int32) (K : Int32 → Int32 → Prop), (∀  (y10 : Int32) (y11 : Int32), K y10 y11 → ∀ (H : Heap) (locs : List Loc), va_P G vwCl (mdW a cs Mf Lf) H → va_D A (mdW a cs Mf Lf) → va_S A s.heap H locs → ∀ ls : Array Slot, lv_has ls 12 [(0, .ref (a 99)), (1, .int z1), (2, .int z2), (3, .int z3), (4, .int z4), (5, .int z5), (6, .int z6), (7, .int z7), (8, .int z8), (9, .int z9), (10, .int y10), (11, .int y11)] → W p l e rm_X5_hit s m args below meth c H locs 0 0 (MQ below (va_Qi (fun (r : Int32) (u : ZI × ZL) => post r u.1 u.2) (CB G A (fun u => (mdW a cs u.1 u.2))) A) args s 0 0 A) (F0 m 119 ls [])) → ∀ (n : Nat)  (y10 : Int32) (y11 : Int32), itF (w_X5_hit_L70 Mf Lf z1 z2 z3 z4 z5 z6 z7 z8 z9 post K) (fun _ _ => False) n y10 y11 → ∀ (H : Heap) (locs : List Loc), va_P G vwCl (mdW a cs Mf Lf) H → va_D A (mdW a cs Mf Lf) → va_S A s.heap H locs → ∀ ls : Array Slot, lv_has ls 12 [(0, .ref (a 99)), (1, .int z1), (2, .int z2), (3, .int z3), (4, .int z4), (5, .int z5), (6, .int z6), (7, .int z7), (8, .int z8), (9, .int z9), (10, .int y10), (11, .int y11)] → W p l e rm_X5_hit s m args below meth c H locs 0 0 (MQ below (va_Qi (fun (r : Int32) (u : ZI × ZL) => post r u.1 u.2) (CB G A (fun u => (mdW a cs u.1 u.2))) A) args s 0 0 A) (F0 m 70 ls []) := by
    intro Mf Lf z1 z2 z3 z4 z5 z6 z7 z8 z9 K hKK n
    induction n with
    | zero =>
      intro y10 y11 h
      exact absurd h id
    | succ n ih =>
      intro y10 y11 h H locs hP hD hS ls hl
      have h : w_X5_hit_L70 Mf Lf z1 z2 z3 z4 z5 z6 z7 z8 z9 post K (itF (w_X5_hit_L70 Mf Lf z1 z2 z3 z4 z5 z6 z7 z8 z9 post K) (fun _ _ => False) n) y10 y11 := h
      generalize itF (w_X5_hit_L70 Mf Lf z1 z2 z3 z4 z5 z6 z7 z8 z9 post K) (fun _ _ => False) n = rec at h ih
      unfold w_X5_hit_L70 at h
      refine lv_iload hx hb dX5_hit_70 (lv_at hl 11 rfl) ?_
      refine lv_bipush (v := 64) hx hb dX5_hit_72 (by decide) ?_
      refine lv_icmp_ge (tgt := 119) hx hb dX5_hit_74 (by decide) (fun ct => ?_) (fun ct => ?_)
      · have h := h.1 ct
        exact hKK _ _ h _ _ hP hD hS ls (lv_sub hl [0, 1, 2, 3, 4, 5, 6, 7, 8, 9, 10, 11] rfl)
      · have h := h.2 ct
        refine lv_iload hx hb dX5_hit_77 (lv_at hl 10 rfl) ?_
        refine lv_aload_n hx hb dX5_hit_79 rfl (lv_at hl 0 rfl) ?_
        refine gf_X5_7 hx hb hT hown hK hP 0 rfl rfl dX5_hit_80 ?_
        refine lv_iconst (v := 0) hx hb dX5_hit_83 (by decide) ?_
        refine lv_iload hx hb dX5_hit_84 (lv_at hl 11 rfl) ?_
        refine lv_iadd hx hb dX5_hit_86 ?_
        obtain ⟨hi, h⟩ := h
        refine va_iald hx hb hK hP 1 0 rfl rfl hi dX5_hit_87 ?_
        refine lv_if_le (tgt := 109) hx hb dX5_hit_88 (by decide) (fun ct => ?_) (fun ct => ?_)
        · have h := h.1 ct
          refine lv_iconst (v := 0) hx hb dX5_hit_109 (by decide) ?_
          refine lv_iadd hx hb dX5_hit_110 ?_
          refine lv_topi (fun v12 ev12 => ?_)
          have h := h v12 ev12
          refine lv_istore (lv' := [(10, .int v12), (0, .ref (a 99)), (1, .int z1), (2, .int z2), (3, .int z3), (4, .int z4), (5, .int z5), (6, .int z6), (7, .int z7), (8, .int z8), (9, .int z9), (11, .int y11)]) hx hb dX5_hit_111 hl (by decide) rfl (fun ls hl => ?_)
          refine lv_iinc (v := y11 + 1) (lv' := [(11, .int (y11 + 1)), (10, .int v12), (0, .ref (a 99)), (1, .int z1), (2, .int z2), (3, .int z3), (4, .int z4), (5, .int z5), (6, .int z6), (7, .int z7), (8, .int z8), (9, .int z9)]) hx hb dX5_hit_113 hl (k := 11) rfl rfl (by decide) rfl (fun ls hl => ?_)
          refine lv_goto (tgt := 70) hx hb dX5_hit_116 (by decide) ?_
          exact ih _ _ h _ _ hP hD hS ls (lv_sub hl [2, 3, 4, 5, 6, 7, 8, 9, 10, 11, 1, 0] rfl)
        · have h := h.2 ct
          refine lv_iload hx hb dX5_hit_91 (lv_at hl 9 rfl) ?_
          refine lv_iload hx hb dX5_hit_93 (lv_at hl 8 rfl) ?_
          refine lv_iload hx hb dX5_hit_95 (lv_at hl 7 rfl) ?_
          refine lv_iload hx hb dX5_hit_97 (lv_at hl 11 rfl) ?_
          refine cl_Si (rn_S (rest := [.int y10]) hx hb hml hown hT hl.1 ck_X5_200 (c_X5_covers l z9 z8 z7 y11 _ h) ⟨rfl, rfl, (Nat.le_of_ble_eq_true rfl), (Nat.le_of_ble_eq_true rfl)⟩ ⟨Nat.zero_le _, Nat.zero_le _⟩ rfl rfl (Nat.le_of_ble_eq_true rfl) dX5_hit_99) (fun r13 h => ?_)
          refine lv_if_eq (tgt := 109) hx hb dX5_hit_102 (by decide) (fun ct => ?_) (fun ct => ?_)
          · have h := h.1 ct
            refine lv_iconst (v := 0) hx hb dX5_hit_109 (by decide) ?_
            refine lv_iadd hx hb dX5_hit_110 ?_
            refine lv_topi (fun v14 ev14 => ?_)
            have h := h v14 ev14
            refine lv_istore (lv' := [(10, .int v14), (0, .ref (a 99)), (1, .int z1), (2, .int z2), (3, .int z3), (4, .int z4), (5, .int z5), (6, .int z6), (7, .int z7), (8, .int z8), (9, .int z9), (11, .int y11)]) hx hb dX5_hit_111 hl (by decide) rfl (fun ls hl => ?_)
            refine lv_iinc (v := y11 + 1) (lv' := [(11, .int (y11 + 1)), (10, .int v14), (0, .ref (a 99)), (1, .int z1), (2, .int z2), (3, .int z3), (4, .int z4), (5, .int z5), (6, .int z6), (7, .int z7), (8, .int z8), (9, .int z9)]) hx hb dX5_hit_113 hl (k := 11) rfl rfl (by decide) rfl (fun ls hl => ?_)
            refine lv_goto (tgt := 70) hx hb dX5_hit_116 (by decide) ?_
            exact ih _ _ h _ _ hP hD hS ls (lv_sub hl [2, 3, 4, 5, 6, 7, 8, 9, 10, 11, 1, 0] rfl)
          · have h := h.2 ct
            refine lv_iconst (v := 1) hx hb dX5_hit_105 (by decide) ?_
            refine lv_goto (tgt := 110) hx hb dX5_hit_106 (by decide) ?_
            refine lv_iadd hx hb dX5_hit_110 ?_
            refine lv_topi (fun v15 ev15 => ?_)
            have h := h v15 ev15
            refine lv_istore (lv' := [(10, .int v15), (0, .ref (a 99)), (1, .int z1), (2, .int z2), (3, .int z3), (4, .int z4), (5, .int z5), (6, .int z6), (7, .int z7), (8, .int z8), (9, .int z9), (11, .int y11)]) hx hb dX5_hit_111 hl (by decide) rfl (fun ls hl => ?_)
            refine lv_iinc (v := y11 + 1) (lv' := [(11, .int (y11 + 1)), (10, .int v15), (0, .ref (a 99)), (1, .int z1), (2, .int z2), (3, .int z3), (4, .int z4), (5, .int z5), (6, .int z6), (7, .int z7), (8, .int z8), (9, .int z9)]) hx hb dX5_hit_113 hl (k := 11) rfl rfl (by decide) rfl (fun ls hl => ?_)
            refine lv_goto (tgt := 70) hx hb dX5_hit_116 (by decide) ?_
            exact ih _ _ h _ _ hP hD hS ls (lv_sub hl [2, 3, 4, 5, 6, 7, 8, 9, 10, 11, 1, 0] rfl)
  have HL27 : ∀  (z1 : Int32) (z2 : Int32) (K : ZI → ZL → Int32 → Int32 → Int32 → Prop), (∀ (Mv : ZI) (Lv : ZL) (y3 : Int32) (y4 : Int32) (y5 : Int32), K Mv Lv y3 y4 y5 → ∀ (H : Heap) (locs : List Loc), va_P G vwCl (mdW a cs Mv Lv) H → va_D A (mdW a cs Mv Lv) → va_S A s.heap H locs → ∀ ls : Array Slot, lv_has ls 12 [(0, .ref (a 99)), (1, .int z1), (2, .int z2), (3, .int y3), (4, .int y4), (5, .int y5)] → W p l e rm_X5_hit s m args below meth c H locs 0 0 (MQ below (va_Qi (fun (r : Int32) (u : ZI × ZL) => post r u.1 u.2) (CB G A (fun u => (mdW a cs u.1 u.2))) A) args s 0 0 A) (F0 m 145 ls [])) → ∀ (n : Nat) (Mv : ZI) (Lv : ZL) (y3 : Int32) (y4 : Int32) (y5 : Int32), itF (w_X5_hit_L27 z1 z2 post K) (fun _ _ _ _ _ => False) n Mv Lv y3 y4 y5 → ∀ (H : Heap) (locs : List Loc), va_P G vwCl (mdW a cs Mv Lv) H → va_D A (mdW a cs Mv Lv) → va_S A s.heap H locs → ∀ ls : Array Slot, lv_has ls 12 [(0, .ref (a 99)), (1, .int z1), (2, .int z2), (3, .int y3), (4, .int y4), (5, .int y5)] → W p l e rm_X5_hit s m args below meth c H locs 0 0 (MQ below (va_Qi (fun (r : Int32) (u : ZI × ZL) => post r u.1 u.2) (CB G A (fun u => (mdW a cs u.1 u.2))) A) args s 0 0 A) (F0 m 27 ls []) := by
    intro z1 z2 K hKK n
    induction n with
    | zero =>
      intro Mv Lv y3 y4 y5 h
      exact absurd h id
    | succ n ih =>
      intro Mv Lv y3 y4 y5 h H locs hP hD hS ls hl
      have h : w_X5_hit_L27 z1 z2 post K (itF (w_X5_hit_L27 z1 z2 post K) (fun _ _ _ _ _ => False) n) Mv Lv y3 y4 y5 := h
      generalize itF (w_X5_hit_L27 z1 z2 post K) (fun _ _ _ _ _ => False) n = rec at h ih
      unfold w_X5_hit_L27 at h
      refine lv_iload hx hb dX5_hit_27 (lv_at hl 5 rfl) ?_
      refine lv_bipush (v := 100) hx hb dX5_hit_29 (by decide) ?_
      refine lv_icmp_ge (tgt := 145) hx hb dX5_hit_31 (by decide) (fun ct => ?_) (fun ct => ?_)
      · have h := h.1 ct
        exact hKK _ _ _ _ _ h _ _ hP hD hS ls (lv_sub hl [0, 1, 2, 3, 4, 5] rfl)
      · have h := h.2 ct
        refine lv_iload hx hb dX5_hit_34 (lv_at hl 5 rfl) ?_
        refine lv_bipush (v := 25) hx hb dX5_hit_36 (by decide) ?_
        refine lv_idiv hx hb dX5_hit_38 (by decide) ?_
        refine lv_topi (fun v6 ev6 => ?_)
        have h := h v6 ev6
        refine lv_istore (lv' := [(6, .int v6), (0, .ref (a 99)), (1, .int z1), (2, .int z2), (3, .int y3), (4, .int y4), (5, .int y5)]) hx hb dX5_hit_39 hl (by decide) rfl (fun ls hl => ?_)
        refine lv_iload hx hb dX5_hit_41 (lv_at hl 6 rfl) ?_
        refine lv_iconst (v := 5) hx hb dX5_hit_43 (by decide) ?_
        refine lv_idiv hx hb dX5_hit_44 (by decide) ?_
        refine lv_iconst (v := 5) hx hb dX5_hit_45 (by decide) ?_
        refine lv_irem hx hb dX5_hit_46 (by decide) ?_
        refine lv_topi (fun v7 ev7 => ?_)
        have h := h v7 ev7
        refine lv_istore (lv' := [(7, .int v7), (6, .int v6), (0, .ref (a 99)), (1, .int z1), (2, .int z2), (3, .int y3), (4, .int y4), (5, .int y5)]) hx hb dX5_hit_47 hl (by decide) rfl (fun ls hl => ?_)
        refine lv_iload hx hb dX5_hit_49 (lv_at hl 7 rfl) ?_
        refine lv_iconst (v := 5) hx hb dX5_hit_51 (by decide) ?_
        refine lv_irem hx hb dX5_hit_52 (by decide) ?_
        refine lv_topi (fun v8 ev8 => ?_)
        have h := h v8 ev8
        refine lv_istore (lv' := [(8, .int v8), (7, .int v7), (6, .int v6), (0, .ref (a 99)), (1, .int z1), (2, .int z2), (3, .int y3), (4, .int y4), (5, .int y5)]) hx hb dX5_hit_53 hl (by decide) rfl (fun ls hl => ?_)
        refine lv_aload_n hx hb dX5_hit_55 rfl (lv_at hl 3 rfl) ?_
        refine lv_iload_n hx hb dX5_hit_56 rfl (lv_at hl 4 rfl) ?_
        refine lv_iload hx hb dX5_hit_57 (lv_at hl 2 rfl) ?_
        refine wi_allM (rn_V (rest := []) (ci := 3) hx hb hml hown hT hl.1 hC hS hP hD 0 rfl rfl rfl ck_X5_90 (c_X5_looksOf l G cs ts a H.size Mv Lv z1 v6 _ h) ⟨rfl, rfl, (Nat.le_of_ble_eq_true rfl), (Nat.le_of_ble_eq_true rfl)⟩ ⟨Nat.le_refl _, Nat.le_refl _⟩ rfl rfl (Nat.le_of_ble_eq_true rfl) dX5_hit_59) hD hS hA (fun r9 M10 L11 H locs hP hD hS h => ?_)
        refine lv_istore (lv' := [(9, .int r9), (8, .int v8), (7, .int v7), (6, .int v6), (0, .ref (a 99)), (1, .int z1), (2, .int z2), (3, .int y3), (4, .int y4), (5, .int y5)]) hx hb dX5_hit_62 hl (by decide) rfl (fun ls hl => ?_)
        refine lv_iconst (v := 0) hx hb dX5_hit_64 (by decide) ?_
        refine lv_istore (lv' := [(10, .int 0), (9, .int r9), (8, .int v8), (7, .int v7), (6, .int v6), (0, .ref (a 99)), (1, .int z1), (2, .int z2), (3, .int y3), (4, .int y4), (5, .int y5)]) hx hb dX5_hit_65 hl (by decide) rfl (fun ls hl => ?_)
        refine lv_iconst (v := 0) hx hb dX5_hit_67 (by decide) ?_
        refine lv_istore (lv' := [(11, .int 0), (10, .int 0), (9, .int r9), (8, .int v8), (7, .int v7), (6, .int v6), (0, .ref (a 99)), (1, .int z1), (2, .int z2), (3, .int y3), (4, .int y4), (5, .int y5)]) hx hb dX5_hit_68 hl (by decide) rfl (fun ls hl => ?_)
        obtain ⟨n19, h⟩ := h
        refine HL70 _ _ _ _ _ _ _ _ _ _ _ _ (fun v16 v17 h H locs hP hD hS ls hl => ?_) n19 _ _ h _ _ hP hD hS ls (lv_sub hl [6, 7, 8, 9, 10, 11, 5, 4, 3, 2, 1, 0] rfl)
        refine lv_iload hx hb dX5_hit_119 (lv_at hl 10 rfl) ?_
        refine lv_iload_n hx hb dX5_hit_121 rfl (lv_at hl 3 rfl) ?_
        refine lv_icmp_le (tgt := 139) hx hb dX5_hit_122 (by decide) (fun ct => ?_) (fun ct => ?_)
        · have h := h.1 ct
          refine lv_iinc (v := y5 + 1) (lv' := [(5, .int (y5 + 1)), (0, .ref (a 99)), (1, .int z1), (2, .int z2), (3, .int y3), (4, .int y4), (6, .int v6), (7, .int v7), (8, .int v8), (9, .int r9), (10, .int v16), (11, .int v17)]) hx hb dX5_hit_139 hl (k := 5) rfl rfl (by decide) rfl (fun ls hl => ?_)
          refine lv_goto (tgt := 27) hx hb dX5_hit_142 (by decide) ?_
          exact ih _ _ _ _ _ h _ _ hP hD hS ls (lv_sub hl [1, 2, 3, 4, 5, 0] rfl)
        · have h := h.2 ct
          refine lv_iload hx hb dX5_hit_125 (lv_at hl 10 rfl) ?_
          refine lv_istore_n (lv' := [(3, .int v16), (0, .ref (a 99)), (1, .int z1), (2, .int z2), (4, .int y4), (5, .int y5), (6, .int v6), (7, .int v7), (8, .int v8), (9, .int r9), (10, .int v16), (11, .int v17)]) hx hb dX5_hit_127 rfl hl (by decide) rfl (fun ls hl => ?_)
          refine lv_iload hx hb dX5_hit_128 (lv_at hl 6 rfl) ?_
          refine lv_iload hx hb dX5_hit_130 (lv_at hl 7 rfl) ?_
          refine lv_iload hx hb dX5_hit_132 (lv_at hl 8 rfl) ?_
          refine cl_Si (rn_S (rest := []) hx hb hml hown hT hl.1 ck_X5_204 (c_X5_numberOf l v6 v7 v8 _ h) ⟨rfl, rfl, (Nat.le_of_ble_eq_true rfl), (Nat.le_of_ble_eq_true rfl)⟩ ⟨Nat.zero_le _, Nat.zero_le _⟩ rfl rfl (Nat.le_of_ble_eq_true rfl) dX5_hit_134) (fun r18 h => ?_)
          refine lv_istore (lv' := [(4, .int r18), (3, .int v16), (0, .ref (a 99)), (1, .int z1), (2, .int z2), (5, .int y5), (6, .int v6), (7, .int v7), (8, .int v8), (9, .int r9), (10, .int v16), (11, .int v17)]) hx hb dX5_hit_137 hl (by decide) rfl (fun ls hl => ?_)
          refine lv_iinc (v := y5 + 1) (lv' := [(5, .int (y5 + 1)), (4, .int r18), (3, .int v16), (0, .ref (a 99)), (1, .int z1), (2, .int z2), (6, .int v6), (7, .int v7), (8, .int v8), (9, .int r9), (10, .int v16), (11, .int v17)]) hx hb dX5_hit_139 hl (k := 5) rfl rfl (by decide) rfl (fun ls hl => ?_)
          refine lv_goto (tgt := 27) hx hb dX5_hit_142 (by decide) ?_
          exact ih _ _ _ _ _ h _ _ hP hD hS ls (lv_sub hl [3, 4, 5, 2, 1, 0] rfl)
  refine lv_iload_n hx hb dX5_hit_0 rfl (lv_at hl 1 rfl) ?_
  refine cl_Si (rn_S (rest := []) hx hb hml hown hT hl.1 ck_X5_62 (c_X5_isWhat l x1 _ h) ⟨rfl, rfl, (Nat.le_of_ble_eq_true rfl), (Nat.le_of_ble_eq_true rfl)⟩ ⟨Nat.zero_le _, Nat.zero_le _⟩ rfl rfl (Nat.le_of_ble_eq_true rfl) dX5_hit_1) (fun r1 h => ?_)
  refine lv_if_eq (tgt := 14) hx hb dX5_hit_4 (by decide) (fun ct => ?_) (fun ct => ?_)
  · have h := h.1 ct
    refine lv_aload_n hx hb dX5_hit_14 rfl (lv_at hl 0 rfl) ?_
    refine wi_allM (rn_V (rest := []) (ci := 3) hx hb hml hown hT hl.1 hC hS hP hD 0 rfl rfl rfl ck_X5_110 (c_X5_bad l G cs ts a H.size M L  _ h) ⟨rfl, rfl, (Nat.le_of_ble_eq_true rfl), (Nat.le_of_ble_eq_true rfl)⟩ ⟨Nat.le_refl _, Nat.le_refl _⟩ rfl rfl (Nat.le_of_ble_eq_true rfl) dX5_hit_15) hD hS hA (fun r2 M3 L4 H locs hP hD hS h => ?_)
    exact rt_Wi hx hb hr hlk dX5_hit_18 (M3, L4) hP hD hS h
  · have h := h.2 ct
    refine lv_iload_n hx hb dX5_hit_7 rfl (lv_at hl 2 rfl) ?_
    refine cl_Si (rn_S (rest := []) hx hb hml hown hT hl.1 ck_X5_62 (c_X5_isWhat l x2 _ h) ⟨rfl, rfl, (Nat.le_of_ble_eq_true rfl), (Nat.le_of_ble_eq_true rfl)⟩ ⟨Nat.zero_le _, Nat.zero_le _⟩ rfl rfl (Nat.le_of_ble_eq_true rfl) dX5_hit_8) (fun r5 h => ?_)
    refine lv_if_ne (tgt := 19) hx hb dX5_hit_11 (by decide) (fun ct => ?_) (fun ct => ?_)
    · have h := h.1 ct
      refine lv_iconst (v := 0) hx hb dX5_hit_19 (by decide) ?_
      refine lv_istore_n (lv' := [(3, .int 0), (0, .ref (a 99)), (1, .int x1), (2, .int x2)]) hx hb dX5_hit_20 rfl hl (by decide) rfl (fun ls hl => ?_)
      refine lv_iconst (v := (-1)) hx hb dX5_hit_21 (by decide) ?_
      refine lv_istore (lv' := [(4, .int (-1)), (3, .int 0), (0, .ref (a 99)), (1, .int x1), (2, .int x2)]) hx hb dX5_hit_22 hl (by decide) rfl (fun ls hl => ?_)
      refine lv_iconst (v := 0) hx hb dX5_hit_24 (by decide) ?_
      refine lv_istore (lv' := [(5, .int 0), (4, .int (-1)), (3, .int 0), (0, .ref (a 99)), (1, .int x1), (2, .int x2)]) hx hb dX5_hit_25 hl (by decide) rfl (fun ls hl => ?_)
      obtain ⟨n25, h⟩ := h
      refine HL27 _ _ _ (fun M20 L21 v22 v23 v24 h H locs hP hD hS ls hl => ?_) n25 _ _ _ _ _ h _ _ hP hD hS ls (lv_sub hl [3, 4, 5, 2, 1, 0] rfl)
      refine lv_iload hx hb dX5_hit_145 (lv_at hl 4 rfl) ?_
      refine lv_if_ge (tgt := 154) hx hb dX5_hit_147 (by decide) (fun ct => ?_) (fun ct => ?_)
      · have h := h.1 ct
        refine lv_iload_n hx hb dX5_hit_154 rfl (lv_at hl 2 rfl) ?_
        refine lv_if_ne (tgt := 162) hx hb dX5_hit_155 (by decide) (fun ct => ?_) (fun ct => ?_)
        · have h := h.1 ct
          refine lv_iload hx hb dX5_hit_162 (lv_at hl 4 rfl) ?_
          exact rt_Wi hx hb hr hlk dX5_hit_164 (M20, L21) hP hD hS h
        · have h := h.2 ct
          refine lv_iload_n hx hb dX5_hit_158 rfl (lv_at hl 3 rfl) ?_
          refine lv_goto (tgt := 164) hx hb dX5_hit_159 (by decide) ?_
          exact rt_Wi hx hb hr hlk dX5_hit_164 (M20, L21) hP hD hS h
      · have h := h.2 ct
        refine lv_iconst (v := (-1)) hx hb dX5_hit_150 (by decide) ?_
        refine lv_goto (tgt := 164) hx hb dX5_hit_151 (by decide) ?_
        exact rt_Wi hx hb hr hlk dX5_hit_164 (M20, L21) hP hD hS h
    · have h := h.2 ct
      refine lv_aload_n hx hb dX5_hit_14 rfl (lv_at hl 0 rfl) ?_
      refine wi_allM (rn_V (rest := []) (ci := 3) hx hb hml hown hT hl.1 hC hS hP hD 0 rfl rfl rfl ck_X5_110 (c_X5_bad l G cs ts a H.size M L  _ h) ⟨rfl, rfl, (Nat.le_of_ble_eq_true rfl), (Nat.le_of_ble_eq_true rfl)⟩ ⟨Nat.le_refl _, Nat.le_refl _⟩ rfl rfl (Nat.le_of_ble_eq_true rfl) dX5_hit_15) hD hS hA (fun r26 M27 L28 H locs hP hD hS h => ?_)
      exact rt_Wi hx hb hr hlk dX5_hit_18 (M27, L28) hP hD hS h
abbrev rm_X5_want : Room := { frames := 2, cells := 0, slots := 0, locals := 46 }
set_option maxRecDepth 100000 in
set_option maxHeartbeats 4000000 in
theorem c_X5_want (l : Launch) (G : va_G) (cs ts : Nat → Nat) (a : Nat → Nat) (sz : Nat)  (M : ZI) (L : ZL)   (x1 : Int32) (x2 : Int32) (post : Int32 → ZI → ZL → Prop) (h : w_X5_want M L x1 x2 post) : Met l yX5_want [.code yX5_want cX5_want 3 (some .int)] rm_X5_want (va_Pc [.ref (a 99), .int x1, .int x2] (CP G cs ts (mdW a cs M L) sz)) (va_Qi (fun (r : Int32) (u : ZI × ZL) => post r u.1 u.2) (CB G (va_A (mdW a cs M L) sz) (fun u => (mdW a cs u.1 u.2))) (va_A (mdW a cs M L) sz)) 0 0 (va_A (mdW a cs M L) sz) := by
  refine ax_W (Qc := fun A => va_Qi (fun (r : Int32) (u : ZI × ZL) => post r u.1 u.2) (CB G A (fun u => (mdW a cs u.1 u.2))) A) (by decide) (Nat.le_of_ble_eq_true rfl) sz ?_
  intro p e s m args below meth c A hx hb hr hlk hml hown hT hC hnm H locs hP hD hS ls hl
  have hK := hC.2.1
  have hA := hC.2.2
  have hl : lv_has ls 3 [(0, .ref (a 99)), (1, .int x1), (2, .int x2)] := hl
  unfold w_X5_want at h
  refine lv_iload_n hx hb dX5_want_0 rfl (lv_at hl 1 rfl) ?_
  refine lv_iload_n hx hb dX5_want_1 rfl (lv_at hl 2 rfl) ?_
  refine cl_Si (rn_S (rest := []) hx hb hml hown hT hl.1 ck_X5_66 (c_X5_isPlace l x1 x2 _ h) ⟨rfl, rfl, (Nat.le_of_ble_eq_true rfl), (Nat.le_of_ble_eq_true rfl)⟩ ⟨Nat.zero_le _, Nat.zero_le _⟩ rfl rfl (Nat.le_of_ble_eq_true rfl) dX5_want_2) (fun r1 h => ?_)
  refine lv_if_ne (tgt := 13) hx hb dX5_want_5 (by decide) (fun ct => ?_) (fun ct => ?_)
  · have h := h.1 ct
    refine lv_aload_n hx hb dX5_want_13 rfl (lv_at hl 0 rfl) ?_
    refine gf_X5_7 hx hb hT hown hK hP 0 rfl rfl dX5_want_14 ?_
    refine lv_bipush (v := 67) hx hb dX5_want_17 (by decide) ?_
    have hi : vp_in 67 99 := by unfold vp_in; decide
    refine va_iald hx hb hK hP 1 0 rfl rfl hi dX5_want_19 ?_
    refine lv_bipush (v := 8) hx hb dX5_want_20 (by decide) ?_
    refine lv_icmp_ne (tgt := 30) hx hb dX5_want_22 (by decide) (fun ct => ?_) (fun ct => ?_)
    · have h := h.1 ct
      refine lv_aload_n hx hb dX5_want_30 rfl (lv_at hl 0 rfl) ?_
      refine gf_X5_7 hx hb hT hown hK hP 0 rfl rfl dX5_want_31 ?_
      refine lv_bipush (v := 68) hx hb dX5_want_34 (by decide) ?_
      refine lv_aload_n hx hb dX5_want_36 rfl (lv_at hl 0 rfl) ?_
      refine gf_X5_7 hx hb hT hown hK hP 0 rfl rfl dX5_want_37 ?_
      refine lv_bipush (v := 67) hx hb dX5_want_40 (by decide) ?_
      have hi : vp_in 67 99 := by unfold vp_in; decide
      refine va_iald hx hb hK hP 1 0 rfl rfl hi dX5_want_42 ?_
      refine lv_iadd hx hb dX5_want_43 ?_
      refine lv_bipush (v := 8) hx hb dX5_want_44 (by decide) ?_
      refine lv_iload_n hx hb dX5_want_46 rfl (lv_at hl 2 rfl) ?_
      refine lv_imul hx hb dX5_want_47 ?_
      refine lv_iload_n hx hb dX5_want_48 rfl (lv_at hl 1 rfl) ?_
      refine lv_iadd hx hb dX5_want_49 ?_
      obtain ⟨hi, h⟩ := h
      refine va_iast hx hb hK hP hD hS 1 0 rfl rfl hi dX5_want_50 (fun H locs hP hD hS => ?_)
      obtain ⟨M2, eM2⟩ : ∃ z : ZI, z = mu M 0 (68 + (M 0 67)).toNatClampNeg ((8 * x2) + x1) := ⟨_, rfl⟩
      have h := h M2 eM2
      have hP : va_P G vwCl (mdW a cs M2 L) H := by rw [eM2]; exact hP
      have hD : va_D A (mdW a cs M2 L) := by rw [eM2]; exact hD
      refine lv_aload_n hx hb dX5_want_51 rfl (lv_at hl 0 rfl) ?_
      refine gf_X5_7 hx hb hT hown hK hP 0 rfl rfl dX5_want_52 ?_
      refine lv_bipush (v := 67) hx hb dX5_want_55 (by decide) ?_
      refine lv_dup2_11 hx hb dX5_want_57 rfl rfl ?_
      have hi : vp_in 67 99 := by unfold vp_in; decide
      refine va_iald hx hb hK hP 1 0 rfl rfl hi dX5_want_58 ?_
      refine lv_iconst (v := 1) hx hb dX5_want_59 (by decide) ?_
      refine lv_iadd hx hb dX5_want_60 ?_
      have hi : vp_in 67 99 := by unfold vp_in; decide
      refine va_iast hx hb hK hP hD hS 1 0 rfl rfl hi dX5_want_61 (fun H locs hP hD hS => ?_)
      obtain ⟨M3, eM3⟩ : ∃ z : ZI, z = mu M2 0 67 ((M2 0 67) + 1) := ⟨_, rfl⟩
      have h := h M3 eM3
      have hP : va_P G vwCl (mdW a cs M3 L) H := by rw [eM3]; exact hP
      have hD : va_D A (mdW a cs M3 L) := by rw [eM3]; exact hD
      refine lv_aload_n hx hb dX5_want_62 rfl (lv_at hl 0 rfl) ?_
      refine gf_X5_7 hx hb hT hown hK hP 0 rfl rfl dX5_want_63 ?_
      refine lv_bipush (v := 67) hx hb dX5_want_66 (by decide) ?_
      have hi : vp_in 67 99 := by unfold vp_in; decide
      refine va_iald hx hb hK hP 1 0 rfl rfl hi dX5_want_68 ?_
      exact rt_Wi hx hb hr hlk dX5_want_69 (M3, L) hP hD hS h
    · have h := h.2 ct
      refine lv_aload_n hx hb dX5_want_25 rfl (lv_at hl 0 rfl) ?_
      refine wi_allM (rn_V (rest := []) (ci := 3) hx hb hml hown hT hl.1 hC hS hP hD 0 rfl rfl rfl ck_X5_141 (c_X5_full l G cs ts a H.size M L  _ h) ⟨rfl, rfl, (Nat.le_of_ble_eq_true rfl), (Nat.le_of_ble_eq_true rfl)⟩ ⟨Nat.le_refl _, Nat.le_refl _⟩ rfl rfl (Nat.le_of_ble_eq_true rfl) dX5_want_26) hD hS hA (fun r4 M5 L6 H locs hP hD hS h => ?_)
      exact rt_Wi hx hb hr hlk dX5_want_29 (M5, L6) hP hD hS h
  · have h := h.2 ct
    refine lv_aload_n hx hb dX5_want_8 rfl (lv_at hl 0 rfl) ?_
    refine wi_allM (rn_V (rest := []) (ci := 3) hx hb hml hown hT hl.1 hC hS hP hD 0 rfl rfl rfl ck_X5_110 (c_X5_bad l G cs ts a H.size M L  _ h) ⟨rfl, rfl, (Nat.le_of_ble_eq_true rfl), (Nat.le_of_ble_eq_true rfl)⟩ ⟨Nat.le_refl _, Nat.le_refl _⟩ rfl rfl (Nat.le_of_ble_eq_true rfl) dX5_want_9) hD hS hA (fun r7 M8 L9 H locs hP hD hS h => ?_)
    exact rt_Wi hx hb hr hlk dX5_want_12 (M8, L9) hP hD hS h
abbrev rm_X5_findWanted : Room := { frames := 2, cells := 0, slots := 0, locals := 50 }
set_option maxRecDepth 100000 in
set_option maxHeartbeats 4000000 in
theorem c_X5_findWanted (l : Launch) (G : va_G) (cs ts : Nat → Nat) (a : Nat → Nat) (sz : Nat)  (M : ZI) (L : ZL)   (x1 : Int32) (post : ZI → ZL → Prop) (h : w_X5_findWanted M L x1 post) : Met l yX5_findWanted [.code yX5_findWanted cX5_findWanted 5 none] rm_X5_findWanted (va_Pc [.ref (a 99), .int x1] (CP G cs ts (mdW a cs M L) sz)) (va_Qv (fun (u : ZI × ZL) => post u.1 u.2) (CB G (va_A (mdW a cs M L) sz) (fun u => (mdW a cs u.1 u.2))) (va_A (mdW a cs M L) sz)) 0 0 (va_A (mdW a cs M L) sz) := by
  refine ax_W (Qc := fun A => va_Qv (fun (u : ZI × ZL) => post u.1 u.2) (CB G A (fun u => (mdW a cs u.1 u.2))) A) (by decide) (Nat.le_of_ble_eq_true rfl) sz ?_
  intro p e s m args below meth c A hx hb hr hlk hml hown hT hC hnm H locs hP hD hS ls hl
  have hK := hC.2.1
  have hA := hC.2.2
  have hl : lv_has ls 5 [(0, .ref (a 99)), (1, .int x1)] := hl
  unfold w_X5_findWanted at h
  have HL29 : ∀ (Lf : ZL) (z1 : Int32) (z2 : Int32) (z3 : Int32) (K : ZI → Int32 → Prop), (∀ (Mv : ZI) (y4 : Int32), K Mv y4 → ∀ (H : Heap) (locs : List Loc), va_P G vwCl (mdW a cs Mv Lf) H → va_D A (mdW a cs Mv Lf) → va_S A s.heap H locs → ∀ ls : Array Slot, lv_has ls 5 [(0, .ref (a 99)), (1, .int z1), (2, .int z2), (3, .int z3), (4, .int y4)] → W p l e rm_X5_findWanted s m args below meth c H locs 0 0 (MQ below (va_Qv (fun (u : ZI × ZL) => post u.1 u.2) (CB G A (fun u => (mdW a cs u.1 u.2))) A) args s 0 0 A) (F0 m 92 ls [])) → ∀ (n : Nat) (Mv : ZI) (y4 : Int32), itF (w_X5_findWanted_L29 Lf z1 z2 z3 post K) (fun _ _ => False) n Mv y4 → ∀ (H : Heap) (locs : List Loc), va_P G vwCl (mdW a cs Mv Lf) H → va_D A (mdW a cs Mv Lf) → va_S A s.heap H locs → ∀ ls : Array Slot, lv_has ls 5 [(0, .ref (a 99)), (1, .int z1), (2, .int z2), (3, .int z3), (4, .int y4)] → W p l e rm_X5_findWanted s m args below meth c H locs 0 0 (MQ below (va_Qv (fun (u : ZI × ZL) => post u.1 u.2) (CB G A (fun u => (mdW a cs u.1 u.2))) A) args s 0 0 A) (F0 m 29 ls []) := by
    intro Lf z1 z2 z3 K hKK n
    induction n with
    | zero =>
      intro Mv y4 h
      exact absurd h id
    | succ n ih =>
      intro Mv y4 h H locs hP hD hS ls hl
      have h : w_X5_findWanted_L29 Lf z1 z2 z3 post K (itF (w_X5_findWanted_L29 Lf z1 z2 z3 post K) (fun _ _ => False) n) Mv y4 := h
      generalize itF (w_X5_findWanted_L29 Lf z1 z2 z3 post K) (fun _ _ => False) n = rec at h ih
      unfold w_X5_findWanted_L29 at h
      refine lv_iload hx hb dX5_findWanted_29 (lv_at hl 4 rfl) ?_
      refine lv_aload_n hx hb dX5_findWanted_31 rfl (lv_at hl 0 rfl) ?_
      refine gf_X5_7 hx hb hT hown hK hP 0 rfl rfl dX5_findWanted_32 ?_
      refine lv_bipush (v := 67) hx hb dX5_findWanted_35 (by decide) ?_
      have hi : vp_in 67 99 := by unfold vp_in; decide
      refine va_iald hx hb hK hP 1 0 rfl rfl hi dX5_findWanted_37 ?_
      refine lv_icmp_ge (tgt := 92) hx hb dX5_findWanted_38 (by decide) (fun ct => ?_) (fun ct => ?_)
      · have h := h.1 ct
        exact hKK _ _ h _ _ hP hD hS ls (lv_sub hl [0, 1, 2, 3, 4] rfl)
      · have h := h.2 ct
        refine lv_aload_n hx hb dX5_findWanted_41 rfl (lv_at hl 0 rfl) ?_
        refine gf_X5_32 hx hb hT hown hK hP 0 rfl rfl dX5_findWanted_42 ?_
        refine lv_iload_n hx hb dX5_findWanted_45 rfl (lv_at hl 2 rfl) ?_
        refine lv_dup2_11 hx hb dX5_findWanted_46 rfl rfl ?_
        obtain ⟨hi, h⟩ := h
        refine va_iald hx hb hK hP 7 0 rfl rfl hi dX5_findWanted_47 ?_
        refine lv_iload_n hx hb dX5_findWanted_48 rfl (lv_at hl 3 rfl) ?_
        refine lv_iload_n hx hb dX5_findWanted_49 rfl (lv_at hl 2 rfl) ?_
        refine lv_bipush (v := 8) hx hb dX5_findWanted_50 (by decide) ?_
        refine lv_irem hx hb dX5_findWanted_52 (by decide) ?_
        refine lv_iload_n hx hb dX5_findWanted_53 rfl (lv_at hl 2 rfl) ?_
        refine lv_bipush (v := 8) hx hb dX5_findWanted_54 (by decide) ?_
        refine lv_idiv hx hb dX5_findWanted_56 (by decide) ?_
        refine lv_bipush (v := 8) hx hb dX5_findWanted_57 (by decide) ?_
        refine lv_irem hx hb dX5_findWanted_59 (by decide) ?_
        refine lv_aload_n hx hb dX5_findWanted_60 rfl (lv_at hl 0 rfl) ?_
        refine gf_X5_7 hx hb hT hown hK hP 0 rfl rfl dX5_findWanted_61 ?_
        refine lv_bipush (v := 68) hx hb dX5_findWanted_64 (by decide) ?_
        refine lv_iload hx hb dX5_findWanted_66 (lv_at hl 4 rfl) ?_
        refine lv_iadd hx hb dX5_findWanted_68 ?_
        obtain ⟨hi, h⟩ := h
        refine va_iald hx hb hK hP 1 0 rfl rfl hi dX5_findWanted_69 ?_
        refine cl_Si (rn_S (rest := [.int (Mv 14 z2.toNatClampNeg), .int z2, .ref (a 14)]) hx hb hml hown hT hl.1 ck_X5_200 (c_X5_covers l z3 (jrem z2 8) (jrem (z2 / 8) 8) (Mv 0 (68 + y4).toNatClampNeg) _ h) ⟨rfl, rfl, (Nat.le_of_ble_eq_true rfl), (Nat.le_of_ble_eq_true rfl)⟩ ⟨Nat.zero_le _, Nat.zero_le _⟩ rfl rfl (Nat.le_of_ble_eq_true rfl) dX5_findWanted_70) (fun r5 h => ?_)
        refine lv_if_eq (tgt := 83) hx hb dX5_findWanted_73 (by decide) (fun ct => ?_) (fun ct => ?_)
        · have h := h.1 ct
          refine lv_iconst (v := 0) hx hb dX5_findWanted_83 (by decide) ?_
          refine lv_ior hx hb dX5_findWanted_84 ?_
          obtain ⟨hi, h⟩ := h
          refine va_iast hx hb hK hP hD hS 7 0 rfl rfl hi dX5_findWanted_85 (fun H locs hP hD hS => ?_)
          obtain ⟨M6, eM6⟩ : ∃ z : ZI, z = mu Mv 14 z2.toNatClampNeg ((Mv 14 z2.toNatClampNeg) ||| 0) := ⟨_, rfl⟩
          have h := h M6 eM6
          have hP : va_P G vwCl (mdW a cs M6 Lf) H := by rw [eM6]; exact hP
          have hD : va_D A (mdW a cs M6 Lf) := by rw [eM6]; exact hD
          refine lv_iinc (v := y4 + 1) (lv' := [(4, .int (y4 + 1)), (0, .ref (a 99)), (1, .int z1), (2, .int z2), (3, .int z3)]) hx hb dX5_findWanted_86 hl (k := 4) rfl rfl (by decide) rfl (fun ls hl => ?_)
          refine lv_goto (tgt := 29) hx hb dX5_findWanted_89 (by decide) ?_
          exact ih _ _ h _ _ hP hD hS ls (lv_sub hl [1, 2, 3, 4, 0] rfl)
        · have h := h.2 ct
          refine lv_iconst (v := 1) hx hb dX5_findWanted_76 (by decide) ?_
          refine lv_iload hx hb dX5_findWanted_77 (lv_at hl 4 rfl) ?_
          refine lv_ishl hx hb dX5_findWanted_79 ?_
          refine lv_goto (tgt := 84) hx hb dX5_findWanted_80 (by decide) ?_
          refine lv_ior hx hb dX5_findWanted_84 ?_
          obtain ⟨hi, h⟩ := h
          refine va_iast hx hb hK hP hD hS 7 0 rfl rfl hi dX5_findWanted_85 (fun H locs hP hD hS => ?_)
          obtain ⟨M7, eM7⟩ : ∃ z : ZI, z = mu Mv 14 z2.toNatClampNeg ((Mv 14 z2.toNatClampNeg) ||| ((1 : Int32) <<< (y4 &&& 31))) := ⟨_, rfl⟩
          have h := h M7 eM7
          have hP : va_P G vwCl (mdW a cs M7 Lf) H := by rw [eM7]; exact hP
          have hD : va_D A (mdW a cs M7 Lf) := by rw [eM7]; exact hD
          refine lv_iinc (v := y4 + 1) (lv' := [(4, .int (y4 + 1)), (0, .ref (a 99)), (1, .int z1), (2, .int z2), (3, .int z3)]) hx hb dX5_findWanted_86 hl (k := 4) rfl rfl (by decide) rfl (fun ls hl => ?_)
          refine lv_goto (tgt := 29) hx hb dX5_findWanted_89 (by decide) ?_
          exact ih _ _ h _ _ hP hD hS ls (lv_sub hl [1, 2, 3, 4, 0] rfl)
  have HL2 : ∀  (z1 : Int32) (K : ZI → ZL → Int32 → Prop), (∀ (Mv : ZI) (Lv : ZL) (y2 : Int32), K Mv Lv y2 → ∀ (H : Heap) (locs : List Loc), va_P G vwCl (mdW a cs Mv Lv) H → va_D A (mdW a cs Mv Lv) → va_S A s.heap H locs → ∀ ls : Array Slot, lv_has ls 5 [(0, .ref (a 99)), (1, .int z1), (2, .int y2)] → W p l e rm_X5_findWanted s m args below meth c H locs 0 0 (MQ below (va_Qv (fun (u : ZI × ZL) => post u.1 u.2) (CB G A (fun u => (mdW a cs u.1 u.2))) A) args s 0 0 A) (F0 m 98 ls [])) → ∀ (n : Nat) (Mv : ZI) (Lv : ZL) (y2 : Int32), itF (w_X5_findWanted_L2 z1 post K) (fun _ _ _ => False) n Mv Lv y2 → ∀ (H : Heap) (locs : List Loc), va_P G vwCl (mdW a cs Mv Lv) H → va_D A (mdW a cs Mv Lv) → va_S A s.heap H locs → ∀ ls : Array Slot, lv_has ls 5 [(0, .ref (a 99)), (1, .int z1), (2, .int y2)] → W p l e rm_X5_findWanted s m args below meth c H locs 0 0 (MQ below (va_Qv (fun (u : ZI × ZL) => post u.1 u.2) (CB G A (fun u => (mdW a cs u.1 u.2))) A) args s 0 0 A) (F0 m 2 ls []) := by
    intro z1 K hKK n
    induction n with
    | zero =>
      intro Mv Lv y2 h
      exact absurd h id
    | succ n ih =>
      intro Mv Lv y2 h H locs hP hD hS ls hl
      have h : w_X5_findWanted_L2 z1 post K (itF (w_X5_findWanted_L2 z1 post K) (fun _ _ _ => False) n) Mv Lv y2 := h
      generalize itF (w_X5_findWanted_L2 z1 post K) (fun _ _ _ => False) n = rec at h ih
      unfold w_X5_findWanted_L2 at h
      refine lv_iload_n hx hb dX5_findWanted_2 rfl (lv_at hl 2 rfl) ?_
      refine lv_sipush (v := 256) hx hb dX5_findWanted_3 (by decide) ?_
      refine lv_icmp_ge (tgt := 98) hx hb dX5_findWanted_6 (by decide) (fun ct => ?_) (fun ct => ?_)
      · have h := h.1 ct
        exact hKK _ _ _ h _ _ hP hD hS ls (lv_sub hl [0, 1, 2] rfl)
      · have h := h.2 ct
        refine lv_aload_n hx hb dX5_findWanted_9 rfl (lv_at hl 0 rfl) ?_
        refine lv_iload_n hx hb dX5_findWanted_10 rfl (lv_at hl 1 rfl) ?_
        refine lv_iload_n hx hb dX5_findWanted_11 rfl (lv_at hl 2 rfl) ?_
        refine lv_bipush (v := 64) hx hb dX5_findWanted_12 (by decide) ?_
        refine lv_idiv hx hb dX5_findWanted_14 (by decide) ?_
        refine wi_allM (rn_V (rest := []) (ci := 3) hx hb hml hown hT hl.1 hC hS hP hD 0 rfl rfl rfl ck_X5_90 (c_X5_looksOf l G cs ts a H.size Mv Lv z1 (y2 / 64) _ h) ⟨rfl, rfl, (Nat.le_of_ble_eq_true rfl), (Nat.le_of_ble_eq_true rfl)⟩ ⟨Nat.le_refl _, Nat.le_refl _⟩ rfl rfl (Nat.le_of_ble_eq_true rfl) dX5_findWanted_15) hD hS hA (fun r1 M2 L3 H locs hP hD hS h => ?_)
        refine lv_istore_n (lv' := [(3, .int r1), (0, .ref (a 99)), (1, .int z1), (2, .int y2)]) hx hb dX5_findWanted_18 rfl hl (by decide) rfl (fun ls hl => ?_)
        refine lv_aload_n hx hb dX5_findWanted_19 rfl (lv_at hl 1 rfl) ?_
        refine gf_X5_32 hx hb hT hown hK hP 0 rfl rfl dX5_findWanted_20 ?_
        refine lv_iload_n hx hb dX5_findWanted_23 rfl (lv_at hl 3 rfl) ?_
        refine lv_iconst (v := 0) hx hb dX5_findWanted_24 (by decide) ?_
        obtain ⟨hi, h⟩ := h
        refine va_iast hx hb hK hP hD hS 7 0 rfl rfl hi dX5_findWanted_25 (fun H locs hP hD hS => ?_)
        obtain ⟨M4, eM4⟩ : ∃ z : ZI, z = mu M2 14 y2.toNatClampNeg 0 := ⟨_, rfl⟩
        have h := h M4 eM4
        have hP : va_P G vwCl (mdW a cs M4 L3) H := by rw [eM4]; exact hP
        have hD : va_D A (mdW a cs M4 L3) := by rw [eM4]; exact hD
        refine lv_iconst (v := 0) hx hb dX5_findWanted_26 (by decide) ?_
        refine lv_istore (lv' := [(4, .int 0), (3, .int r1), (0, .ref (a 99)), (1, .int z1), (2, .int y2)]) hx hb dX5_findWanted_27 hl (by decide) rfl (fun ls hl => ?_)
        obtain ⟨n10, h⟩ := h
        refine HL29 _ _ _ _ _ (fun M8 v9 h H locs hP hD hS ls hl => ?_) n10 _ _ h _ _ hP hD hS ls (lv_sub hl [2, 3, 4, 1, 0] rfl)
        refine lv_iinc (v := y2 + 1) (lv' := [(2, .int (y2 + 1)), (0, .ref (a 99)), (1, .int z1), (3, .int r1), (4, .int v9)]) hx hb dX5_findWanted_92 hl (k := 2) rfl rfl (by decide) rfl (fun ls hl => ?_)
        refine lv_goto (tgt := 2) hx hb dX5_findWanted_95 (by decide) ?_
        exact ih _ _ _ h _ _ hP hD hS ls (lv_sub hl [1, 2, 0] rfl)
  refine lv_iconst (v := 0) hx hb dX5_findWanted_0 (by decide) ?_
  refine lv_istore_n (lv' := [(2, .int 0), (0, .ref (a 99)), (1, .int x1)]) hx hb dX5_findWanted_1 rfl hl (by decide) rfl (fun ls hl => ?_)
  obtain ⟨n14, h⟩ := h
  refine HL2 _ _ (fun M11 L12 v13 h H locs hP hD hS ls hl => ?_) n14 _ _ _ h _ _ hP hD hS ls (lv_sub hl [1, 2, 0] rfl)
  exact rt_Wv hx hb hr hlk dX5_findWanted_98 (M11, L12) hP hD hS h
abbrev rm_X5_cover : Room := { frames := 3, cells := 0, slots := 0, locals := 74 }
set_option maxRecDepth 100000 in
set_option maxHeartbeats 4000000 in
theorem c_X5_cover (l : Launch) (G : va_G) (cs ts : Nat → Nat) (a : Nat → Nat) (sz : Nat)  (M : ZI) (L : ZL)   (x1 : Int32) (x2 : Int32) (post : Int32 → ZI → ZL → Prop) (h : w_X5_cover M L x1 x2 post) : Met l yX5_cover [.code yX5_cover cX5_cover 6 (some .int)] rm_X5_cover (va_Pc [.ref (a 99), .int x1, .int x2] (CP G cs ts (mdW a cs M L) sz)) (va_Qi (fun (r : Int32) (u : ZI × ZL) => post r u.1 u.2) (CB G (va_A (mdW a cs M L) sz) (fun u => (mdW a cs u.1 u.2))) (va_A (mdW a cs M L) sz)) 0 0 (va_A (mdW a cs M L) sz) := by
  refine ax_W (Qc := fun A => va_Qi (fun (r : Int32) (u : ZI × ZL) => post r u.1 u.2) (CB G A (fun u => (mdW a cs u.1 u.2))) A) (by decide) (Nat.le_of_ble_eq_true rfl) sz ?_
  intro p e s m args below meth c A hx hb hr hlk hml hown hT hC hnm H locs hP hD hS ls hl
  have hK := hC.2.1
  have hA := hC.2.2
  have hl : lv_has ls 6 [(0, .ref (a 99)), (1, .int x1), (2, .int x2)] := hl
  unfold w_X5_cover at h
  have HL56 : ∀ (Mf : ZI) (Lf : ZL) (z1 : Int32) (z2 : Int32) (z3 : Int32) (K : Int32 → Prop), (∀  (y4 : Int32), K y4 → ∀ (H : Heap) (locs : List Loc), va_P G vwCl (mdW a cs Mf Lf) H → va_D A (mdW a cs Mf Lf) → va_S A s.heap H locs → ∀ ls : Array Slot, lv_has ls 6 [(0, .ref (a 99)), (1, .int z1), (2, .int z2), (3, .int z3), (4, .int y4)] → W p l e rm_X5_cover s m args below meth c H locs 0 0 (MQ below (va_Qi (fun (r : Int32) (u : ZI × ZL) => post r u.1 u.2) (CB G A (fun u => (mdW a cs u.1 u.2))) A) args s 0 0 A) (F0 m 95 ls [])) → ∀ (n : Nat)  (y4 : Int32), itF (w_X5_cover_L56 Mf Lf z1 z2 z3 post K) (fun _ => False) n y4 → ∀ (H : Heap) (locs : List Loc), va_P G vwCl (mdW a cs Mf Lf) H → va_D A (mdW a cs Mf Lf) → va_S A s.heap H locs → ∀ ls : Array Slot, lv_has ls 6 [(0, .ref (a 99)), (1, .int z1), (2, .int z2), (3, .int z3), (4, .int y4)] → W p l e rm_X5_cover s m args below meth c H locs 0 0 (MQ below (va_Qi (fun (r : Int32) (u : ZI × ZL) => post r u.1 u.2) (CB G A (fun u => (mdW a cs u.1 u.2))) A) args s 0 0 A) (F0 m 56 ls []) := by
    intro Mf Lf z1 z2 z3 K hKK n
    induction n with
    | zero =>
      intro y4 h
      exact absurd h id
    | succ n ih =>
      intro y4 h H locs hP hD hS ls hl
      have h : w_X5_cover_L56 Mf Lf z1 z2 z3 post K (itF (w_X5_cover_L56 Mf Lf z1 z2 z3 post K) (fun _ => False) n) y4 := h
      generalize itF (w_X5_cover_L56 Mf Lf z1 z2 z3 post K) (fun _ => False) n = rec at h ih
      unfold w_X5_cover_L56 at h
      refine lv_iload hx hb dX5_cover_56 (lv_at hl 4 rfl) ?_
      refine lv_sipush (v := 256) hx hb dX5_cover_58 (by decide) ?_
      refine lv_icmp_ge (tgt := 95) hx hb dX5_cover_61 (by decide) (fun ct => ?_) (fun ct => ?_)
      · have h := h.1 ct
        exact hKK _ h _ _ hP hD hS ls (lv_sub hl [0, 1, 2, 3, 4] rfl)
      · have h := h.2 ct
        refine lv_aload_n hx hb dX5_cover_64 rfl (lv_at hl 0 rfl) ?_
        refine gf_X5_32 hx hb hT hown hK hP 0 rfl rfl dX5_cover_65 ?_
        refine lv_iload hx hb dX5_cover_68 (lv_at hl 4 rfl) ?_
        obtain ⟨hi, h⟩ := h
        refine va_iald hx hb hK hP 7 0 rfl rfl hi dX5_cover_70 ?_
        refine lv_iload_n hx hb dX5_cover_71 rfl (lv_at hl 3 rfl) ?_
        refine lv_icmp_ne (tgt := 89) hx hb dX5_cover_72 (by decide) (fun ct => ?_) (fun ct => ?_)
        · have h := h.1 ct
          refine lv_iinc (v := y4 + 1) (lv' := [(4, .int (y4 + 1)), (0, .ref (a 99)), (1, .int z1), (2, .int z2), (3, .int z3)]) hx hb dX5_cover_89 hl (k := 4) rfl rfl (by decide) rfl (fun ls hl => ?_)
          refine lv_goto (tgt := 56) hx hb dX5_cover_92 (by decide) ?_
          exact ih _ h _ _ hP hD hS ls (lv_sub hl [1, 2, 3, 4, 0] rfl)
        · have h := h.2 ct
          refine lv_iload_n hx hb dX5_cover_75 rfl (lv_at hl 2 rfl) ?_
          refine lv_if_ne (tgt := 83) hx hb dX5_cover_76 (by decide) (fun ct => ?_) (fun ct => ?_)
          · have h := h.1 ct
            refine lv_iload hx hb dX5_cover_83 (lv_at hl 4 rfl) ?_
            refine cl_Si (rn_S (rest := []) hx hb hml hown hT hl.1 ck_X5_210 (c_X5_numberBy l y4 _ h) ⟨rfl, rfl, (Nat.le_of_ble_eq_true rfl), (Nat.le_of_ble_eq_true rfl)⟩ ⟨Nat.zero_le _, Nat.zero_le _⟩ rfl rfl (Nat.le_of_ble_eq_true rfl) dX5_cover_85) (fun r9 h => ?_)
            exact rt_Wi hx hb hr hlk dX5_cover_88 (Mf, Lf) hP hD hS h
          · have h := h.2 ct
            refine lv_iconst (v := 1) hx hb dX5_cover_79 (by decide) ?_
            refine lv_goto (tgt := 88) hx hb dX5_cover_80 (by decide) ?_
            exact rt_Wi hx hb hr hlk dX5_cover_88 (Mf, Lf) hP hD hS h
  have HL109 : ∀ (Mf : ZI) (Lf : ZL) (z1 : Int32) (z2 : Int32) (z3 : Int32) (z4 : Int32) (K : Int32 → Prop), (∀  (y5 : Int32), K y5 → ∀ (H : Heap) (locs : List Loc), va_P G vwCl (mdW a cs Mf Lf) H → va_D A (mdW a cs Mf Lf) → va_S A s.heap H locs → ∀ ls : Array Slot, lv_has ls 6 [(0, .ref (a 99)), (1, .int z1), (2, .int z2), (3, .int z3), (4, .int z4), (5, .int y5)] → W p l e rm_X5_cover s m args below meth c H locs 0 0 (MQ below (va_Qi (fun (r : Int32) (u : ZI × ZL) => post r u.1 u.2) (CB G A (fun u => (mdW a cs u.1 u.2))) A) args s 0 0 A) (F0 m 156 ls [])) → ∀ (n : Nat)  (y5 : Int32), itF (w_X5_cover_L109 Mf Lf z1 z2 z3 z4 post K) (fun _ => False) n y5 → ∀ (H : Heap) (locs : List Loc), va_P G vwCl (mdW a cs Mf Lf) H → va_D A (mdW a cs Mf Lf) → va_S A s.heap H locs → ∀ ls : Array Slot, lv_has ls 6 [(0, .ref (a 99)), (1, .int z1), (2, .int z2), (3, .int z3), (4, .int z4), (5, .int y5)] → W p l e rm_X5_cover s m args below meth c H locs 0 0 (MQ below (va_Qi (fun (r : Int32) (u : ZI × ZL) => post r u.1 u.2) (CB G A (fun u => (mdW a cs u.1 u.2))) A) args s 0 0 A) (F0 m 109 ls []) := by
    intro Mf Lf z1 z2 z3 z4 K hKK n
    induction n with
    | zero =>
      intro y5 h
      exact absurd h id
    | succ n ih =>
      intro y5 h H locs hP hD hS ls hl
      have h : w_X5_cover_L109 Mf Lf z1 z2 z3 z4 post K (itF (w_X5_cover_L109 Mf Lf z1 z2 z3 z4 post K) (fun _ => False) n) y5 := h
      generalize itF (w_X5_cover_L109 Mf Lf z1 z2 z3 z4 post K) (fun _ => False) n = rec at h ih
      unfold w_X5_cover_L109 at h
      refine lv_iload hx hb dX5_cover_109 (lv_at hl 5 rfl) ?_
      refine lv_sipush (v := 256) hx hb dX5_cover_111 (by decide) ?_
      refine lv_icmp_ge (tgt := 156) hx hb dX5_cover_114 (by decide) (fun ct => ?_) (fun ct => ?_)
      · have h := h.1 ct
        exact hKK _ h _ _ hP hD hS ls (lv_sub hl [0, 1, 2, 3, 4, 5] rfl)
      · have h := h.2 ct
        refine lv_aload_n hx hb dX5_cover_117 rfl (lv_at hl 0 rfl) ?_
        refine gf_X5_32 hx hb hT hown hK hP 0 rfl rfl dX5_cover_118 ?_
        refine lv_iload hx hb dX5_cover_121 (lv_at hl 4 rfl) ?_
        obtain ⟨hi, h⟩ := h
        refine va_iald hx hb hK hP 7 0 rfl rfl hi dX5_cover_123 ?_
        refine lv_aload_n hx hb dX5_cover_124 rfl (lv_at hl 0 rfl) ?_
        refine gf_X5_32 hx hb hT hown hK hP 0 rfl rfl dX5_cover_125 ?_
        refine lv_iload hx hb dX5_cover_128 (lv_at hl 5 rfl) ?_
        obtain ⟨hi, h⟩ := h
        refine va_iald hx hb hK hP 7 0 rfl rfl hi dX5_cover_130 ?_
        refine lv_ior hx hb dX5_cover_131 ?_
        refine lv_iload_n hx hb dX5_cover_132 rfl (lv_at hl 3 rfl) ?_
        refine lv_icmp_ne (tgt := 150) hx hb dX5_cover_133 (by decide) (fun ct => ?_) (fun ct => ?_)
        · have h := h.1 ct
          refine lv_iinc (v := y5 + 1) (lv' := [(5, .int (y5 + 1)), (0, .ref (a 99)), (1, .int z1), (2, .int z2), (3, .int z3), (4, .int z4)]) hx hb dX5_cover_150 hl (k := 5) rfl rfl (by decide) rfl (fun ls hl => ?_)
          refine lv_goto (tgt := 109) hx hb dX5_cover_153 (by decide) ?_
          exact ih _ h _ _ hP hD hS ls (lv_sub hl [1, 2, 3, 4, 5, 0] rfl)
        · have h := h.2 ct
          refine lv_iload_n hx hb dX5_cover_136 rfl (lv_at hl 2 rfl) ?_
          refine lv_if_ne (tgt := 144) hx hb dX5_cover_137 (by decide) (fun ct => ?_) (fun ct => ?_)
          · have h := h.1 ct
            refine lv_iload hx hb dX5_cover_144 (lv_at hl 4 rfl) ?_
            refine cl_Si (rn_S (rest := []) hx hb hml hown hT hl.1 ck_X5_210 (c_X5_numberBy l z4 _ h) ⟨rfl, rfl, (Nat.le_of_ble_eq_true rfl), (Nat.le_of_ble_eq_true rfl)⟩ ⟨Nat.zero_le _, Nat.zero_le _⟩ rfl rfl (Nat.le_of_ble_eq_true rfl) dX5_cover_146) (fun r11 h => ?_)
            exact rt_Wi hx hb hr hlk dX5_cover_149 (Mf, Lf) hP hD hS h
          · have h := h.2 ct
            refine lv_iconst (v := 2) hx hb dX5_cover_140 (by decide) ?_
            refine lv_goto (tgt := 149) hx hb dX5_cover_141 (by decide) ?_
            exact rt_Wi hx hb hr hlk dX5_cover_149 (Mf, Lf) hP hD hS h
  have HL98 : ∀ (Mf : ZI) (Lf : ZL) (z1 : Int32) (z2 : Int32) (z3 : Int32) (K : Int32 → Prop), (∀  (y4 : Int32), K y4 → ∀ (H : Heap) (locs : List Loc), va_P G vwCl (mdW a cs Mf Lf) H → va_D A (mdW a cs Mf Lf) → va_S A s.heap H locs → ∀ ls : Array Slot, lv_has ls 6 [(0, .ref (a 99)), (1, .int z1), (2, .int z2), (3, .int z3), (4, .int y4)] → W p l e rm_X5_cover s m args below meth c H locs 0 0 (MQ below (va_Qi (fun (r : Int32) (u : ZI × ZL) => post r u.1 u.2) (CB G A (fun u => (mdW a cs u.1 u.2))) A) args s 0 0 A) (F0 m 162 ls [])) → ∀ (n : Nat)  (y4 : Int32), itF (w_X5_cover_L98 Mf Lf z1 z2 z3 post K) (fun _ => False) n y4 → ∀ (H : Heap) (locs : List Loc), va_P G vwCl (mdW a cs Mf Lf) H → va_D A (mdW a cs Mf Lf) → va_S A s.heap H locs → ∀ ls : Array Slot, lv_has ls 6 [(0, .ref (a 99)), (1, .int z1), (2, .int z2), (3, .int z3), (4, .int y4)] → W p l e rm_X5_cover s m args below meth c H locs 0 0 (MQ below (va_Qi (fun (r : Int32) (u : ZI × ZL) => post r u.1 u.2) (CB G A (fun u => (mdW a cs u.1 u.2))) A) args s 0 0 A) (F0 m 98 ls []) := by
    intro Mf Lf z1 z2 z3 K hKK n
    induction n with
    | zero =>
      intro y4 h
      exact absurd h id
    | succ n ih =>
      intro y4 h H locs hP hD hS ls hl
      have h : w_X5_cover_L98 Mf Lf z1 z2 z3 post K (itF (w_X5_cover_L98 Mf Lf z1 z2 z3 post K) (fun _ => False) n) y4 := h
      generalize itF (w_X5_cover_L98 Mf Lf z1 z2 z3 post K) (fun _ => False) n = rec at h ih
      unfold w_X5_cover_L98 at h
      refine lv_iload hx hb dX5_cover_98 (lv_at hl 4 rfl) ?_
      refine lv_sipush (v := 256) hx hb dX5_cover_100 (by decide) ?_
      refine lv_icmp_ge (tgt := 162) hx hb dX5_cover_103 (by decide) (fun ct => ?_) (fun ct => ?_)
      · have h := h.1 ct
        exact hKK _ h _ _ hP hD hS ls (lv_sub hl [0, 1, 2, 3, 4] rfl)
      · have h := h.2 ct
        refine lv_iconst (v := 0) hx hb dX5_cover_106 (by decide) ?_
        refine lv_istore (lv' := [(5, .int 0), (0, .ref (a 99)), (1, .int z1), (2, .int z2), (3, .int z3), (4, .int y4)]) hx hb dX5_cover_107 hl (by decide) rfl (fun ls hl => ?_)
        obtain ⟨n13, h⟩ := h
        refine HL109 _ _ _ _ _ _ _ (fun v12 h H locs hP hD hS ls hl => ?_) n13 _ h _ _ hP hD hS ls (lv_sub hl [1, 2, 3, 4, 5, 0] rfl)
        refine lv_iinc (v := y4 + 1) (lv' := [(4, .int (y4 + 1)), (0, .ref (a 99)), (1, .int z1), (2, .int z2), (3, .int z3), (5, .int v12)]) hx hb dX5_cover_156 hl (k := 4) rfl rfl (by decide) rfl (fun ls hl => ?_)
        refine lv_goto (tgt := 98) hx hb dX5_cover_159 (by decide) ?_
        exact ih _ h _ _ hP hD hS ls (lv_sub hl [1, 2, 3, 4, 0] rfl)
  refine lv_iload_n hx hb dX5_cover_0 rfl (lv_at hl 1 rfl) ?_
  refine cl_Si (rn_S (rest := []) hx hb hml hown hT hl.1 ck_X5_62 (c_X5_isWhat l x1 _ h) ⟨rfl, rfl, (Nat.le_of_ble_eq_true rfl), (Nat.le_of_ble_eq_true rfl)⟩ ⟨Nat.zero_le _, Nat.zero_le _⟩ rfl rfl (Nat.le_of_ble_eq_true rfl) dX5_cover_1) (fun r1 h => ?_)
  refine lv_if_eq (tgt := 14) hx hb dX5_cover_4 (by decide) (fun ct => ?_) (fun ct => ?_)
  · have h := h.1 ct
    refine lv_aload_n hx hb dX5_cover_14 rfl (lv_at hl 0 rfl) ?_
    refine wi_allM (rn_V (rest := []) (ci := 3) hx hb hml hown hT hl.1 hC hS hP hD 0 rfl rfl rfl ck_X5_110 (c_X5_bad l G cs ts a H.size M L  _ h) ⟨rfl, rfl, (Nat.le_of_ble_eq_true rfl), (Nat.le_of_ble_eq_true rfl)⟩ ⟨Nat.le_refl _, Nat.le_refl _⟩ rfl rfl (Nat.le_of_ble_eq_true rfl) dX5_cover_15) hD hS hA (fun r2 M3 L4 H locs hP hD hS h => ?_)
    refine lv_pop hx hb dX5_cover_18 rfl ?_
    refine lv_bipush (v := (-10)) hx hb dX5_cover_19 (by decide) ?_
    exact rt_Wi hx hb hr hlk dX5_cover_21 (M3, L4) hP hD hS h
  · have h := h.2 ct
    refine lv_iload_n hx hb dX5_cover_7 rfl (lv_at hl 2 rfl) ?_
    refine cl_Si (rn_S (rest := []) hx hb hml hown hT hl.1 ck_X5_62 (c_X5_isWhat l x2 _ h) ⟨rfl, rfl, (Nat.le_of_ble_eq_true rfl), (Nat.le_of_ble_eq_true rfl)⟩ ⟨Nat.zero_le _, Nat.zero_le _⟩ rfl rfl (Nat.le_of_ble_eq_true rfl) dX5_cover_8) (fun r5 h => ?_)
    refine lv_if_ne (tgt := 22) hx hb dX5_cover_11 (by decide) (fun ct => ?_) (fun ct => ?_)
    · have h := h.1 ct
      refine lv_iconst (v := 1) hx hb dX5_cover_22 (by decide) ?_
      refine lv_aload_n hx hb dX5_cover_23 rfl (lv_at hl 0 rfl) ?_
      refine gf_X5_7 hx hb hT hown hK hP 0 rfl rfl dX5_cover_24 ?_
      refine lv_bipush (v := 67) hx hb dX5_cover_27 (by decide) ?_
      have hi : vp_in 67 99 := by unfold vp_in; decide
      refine va_iald hx hb hK hP 1 0 rfl rfl hi dX5_cover_29 ?_
      refine lv_ishl hx hb dX5_cover_30 ?_
      refine lv_iconst (v := 1) hx hb dX5_cover_31 (by decide) ?_
      refine lv_isub hx hb dX5_cover_32 ?_
      refine lv_topi (fun v6 ev6 => ?_)
      have h := h v6 ev6
      refine lv_istore_n (lv' := [(3, .int v6), (0, .ref (a 99)), (1, .int x1), (2, .int x2)]) hx hb dX5_cover_33 rfl hl (by decide) rfl (fun ls hl => ?_)
      refine lv_iload_n hx hb dX5_cover_34 rfl (lv_at hl 0 rfl) ?_
      refine lv_if_ne (tgt := 48) hx hb dX5_cover_35 (by decide) (fun ct => ?_) (fun ct => ?_)
      · have h := h.1 ct
        refine lv_aload_n hx hb dX5_cover_48 rfl (lv_at hl 1 rfl) ?_
        refine lv_iload_n hx hb dX5_cover_49 rfl (lv_at hl 2 rfl) ?_
        refine wv_allM (rn_V (rest := []) (ci := 3) hx hb hml hown hT hl.1 hC hS hP hD 0 rfl rfl rfl ck_X5_207 (c_X5_findWanted l G cs ts a H.size M L x1 _ h) ⟨rfl, rfl, (Nat.le_of_ble_eq_true rfl), (Nat.le_of_ble_eq_true rfl)⟩ ⟨Nat.le_refl _, Nat.le_refl _⟩ rfl rfl (Nat.le_of_ble_eq_true rfl) dX5_cover_50) hD hS hA (fun M7 L8 H locs hP hD hS h => ?_)
        refine lv_iconst (v := 0) hx hb dX5_cover_53 (by decide) ?_
        refine lv_istore (lv' := [(4, .int 0), (3, .int v6), (0, .ref (a 99)), (1, .int x1), (2, .int x2)]) hx hb dX5_cover_54 hl (by decide) rfl (fun ls hl => ?_)
        obtain ⟨n16, h⟩ := h
        refine HL56 _ _ _ _ _ _ (fun v10 h H locs hP hD hS ls hl => ?_) n16 _ h _ _ hP hD hS ls (lv_sub hl [2, 3, 4, 1, 0] rfl)
        refine lv_iconst (v := 0) hx hb dX5_cover_95 (by decide) ?_
        refine lv_istore (lv' := [(4, .int 0), (0, .ref (a 99)), (1, .int x1), (2, .int x2), (3, .int v6)]) hx hb dX5_cover_96 hl (by decide) rfl (fun ls hl => ?_)
        obtain ⟨n15, h⟩ := h
        refine HL98 _ _ _ _ _ _ (fun v14 h H locs hP hD hS ls hl => ?_) n15 _ h _ _ hP hD hS ls (lv_sub hl [1, 2, 3, 4, 0] rfl)
        refine lv_iconst (v := (-1)) hx hb dX5_cover_162 (by decide) ?_
        exact rt_Wi hx hb hr hlk dX5_cover_163 (M7, L8) hP hD hS h
      · have h := h.2 ct
        refine lv_iload_n hx hb dX5_cover_38 rfl (lv_at hl 3 rfl) ?_
        refine lv_if_ne (tgt := 46) hx hb dX5_cover_39 (by decide) (fun ct => ?_) (fun ct => ?_)
        · have h := h.1 ct
          refine lv_iconst (v := (-1)) hx hb dX5_cover_46 (by decide) ?_
          exact rt_Wi hx hb hr hlk dX5_cover_47 (M, L) hP hD hS h
        · have h := h.2 ct
          refine lv_iconst (v := 0) hx hb dX5_cover_42 (by decide) ?_
          refine lv_goto (tgt := 47) hx hb dX5_cover_43 (by decide) ?_
          exact rt_Wi hx hb hr hlk dX5_cover_47 (M, L) hP hD hS h
    · have h := h.2 ct
      refine lv_aload_n hx hb dX5_cover_14 rfl (lv_at hl 0 rfl) ?_
      refine wi_allM (rn_V (rest := []) (ci := 3) hx hb hml hown hT hl.1 hC hS hP hD 0 rfl rfl rfl ck_X5_110 (c_X5_bad l G cs ts a H.size M L  _ h) ⟨rfl, rfl, (Nat.le_of_ble_eq_true rfl), (Nat.le_of_ble_eq_true rfl)⟩ ⟨Nat.le_refl _, Nat.le_refl _⟩ rfl rfl (Nat.le_of_ble_eq_true rfl) dX5_cover_15) hD hS hA (fun r17 M18 L19 H locs hP hD hS h => ?_)
      refine lv_pop hx hb dX5_cover_18 rfl ?_
      refine lv_bipush (v := (-10)) hx hb dX5_cover_19 (by decide) ?_
      exact rt_Wi hx hb hr hlk dX5_cover_21 (M18, L19) hP hD hS h
abbrev rm_X5_shrinks : Room := { frames := 2, cells := 0, slots := 0, locals := 47 }
set_option maxRecDepth 100000 in
set_option maxHeartbeats 4000000 in
theorem c_X5_shrinks (l : Launch) (G : va_G) (cs ts : Nat → Nat) (a : Nat → Nat) (sz : Nat)  (M : ZI) (L : ZL)   (x1 : Int32) (x2 : Int32) (post : Int32 → ZI → ZL → Prop) (h : w_X5_shrinks M L x1 x2 post) : Met l yX5_shrinks [.code yX5_shrinks cX5_shrinks 5 (some .int)] rm_X5_shrinks (va_Pc [.ref (a 99), .int x1, .int x2] (CP G cs ts (mdW a cs M L) sz)) (va_Qi (fun (r : Int32) (u : ZI × ZL) => post r u.1 u.2) (CB G (va_A (mdW a cs M L) sz) (fun u => (mdW a cs u.1 u.2))) (va_A (mdW a cs M L) sz)) 0 0 (va_A (mdW a cs M L) sz) := by
  refine ax_W (Qc := fun A => va_Qi (fun (r : Int32) (u : ZI × ZL) => post r u.1 u.2) (CB G A (fun u => (mdW a cs u.1 u.2))) A) (by decide) (Nat.le_of_ble_eq_true rfl) sz ?_
  intro p e s m args below meth c A hx hb hr hlk hml hown hT hC hnm H locs hP hD hS ls hl
  have hK := hC.2.1
  have hA := hC.2.2
  have hl : lv_has ls 5 [(0, .ref (a 99)), (1, .int x1), (2, .int x2)] := hl
  unfold w_X5_shrinks at h
  have HL37 : ∀ (Mf : ZI) (Lf : ZL) (z1 : Int32) (z2 : Int32) (K : Int32 → Int32 → Prop), (∀  (y3 : Int32) (y4 : Int32), K y3 y4 → ∀ (H : Heap) (locs : List Loc), va_P G vwCl (mdW a cs Mf Lf) H → va_D A (mdW a cs Mf Lf) → va_S A s.heap H locs → ∀ ls : Array Slot, lv_has ls 5 [(0, .ref (a 99)), (1, .int z1), (2, .int z2), (3, .int y3), (4, .int y4)] → W p l e rm_X5_shrinks s m args below meth c H locs 0 0 (MQ below (va_Qi (fun (r : Int32) (u : ZI × ZL) => post r u.1 u.2) (CB G A (fun u => (mdW a cs u.1 u.2))) A) args s 0 0 A) (F0 m 54 ls [])) → ∀ (n : Nat)  (y3 : Int32) (y4 : Int32), itF (w_X5_shrinks_L37 Mf Lf z1 z2 post K) (fun _ _ => False) n y3 y4 → ∀ (H : Heap) (locs : List Loc), va_P G vwCl (mdW a cs Mf Lf) H → va_D A (mdW a cs Mf Lf) → va_S A s.heap H locs → ∀ ls : Array Slot, lv_has ls 5 [(0, .ref (a 99)), (1, .int z1), (2, .int z2), (3, .int y3), (4, .int y4)] → W p l e rm_X5_shrinks s m args below meth c H locs 0 0 (MQ below (va_Qi (fun (r : Int32) (u : ZI × ZL) => post r u.1 u.2) (CB G A (fun u => (mdW a cs u.1 u.2))) A) args s 0 0 A) (F0 m 37 ls []) := by
    intro Mf Lf z1 z2 K hKK n
    induction n with
    | zero =>
      intro y3 y4 h
      exact absurd h id
    | succ n ih =>
      intro y3 y4 h H locs hP hD hS ls hl
      have h : w_X5_shrinks_L37 Mf Lf z1 z2 post K (itF (w_X5_shrinks_L37 Mf Lf z1 z2 post K) (fun _ _ => False) n) y3 y4 := h
      generalize itF (w_X5_shrinks_L37 Mf Lf z1 z2 post K) (fun _ _ => False) n = rec at h ih
      unfold w_X5_shrinks_L37 at h
      refine lv_iload hx hb dX5_shrinks_37 (lv_at hl 4 rfl) ?_
      refine lv_iload_n hx hb dX5_shrinks_39 rfl (lv_at hl 2 rfl) ?_
      refine lv_icmp_ge (tgt := 54) hx hb dX5_shrinks_40 (by decide) (fun ct => ?_) (fun ct => ?_)
      · have h := h.1 ct
        exact hKK _ _ h _ _ hP hD hS ls (lv_sub hl [0, 1, 2, 3, 4] rfl)
      · have h := h.2 ct
        refine lv_iload_n hx hb dX5_shrinks_43 rfl (lv_at hl 3 rfl) ?_
        refine cl_Si (rn_S (rest := []) hx hb hml hown hT hl.1 ck_X5_213 (c_X5_shrunk l y3 _ h) ⟨rfl, rfl, (Nat.le_of_ble_eq_true rfl), (Nat.le_of_ble_eq_true rfl)⟩ ⟨Nat.zero_le _, Nat.zero_le _⟩ rfl rfl (Nat.le_of_ble_eq_true rfl) dX5_shrinks_44) (fun r7 h => ?_)
        refine lv_istore_n (lv' := [(3, .int r7), (0, .ref (a 99)), (1, .int z1), (2, .int z2), (4, .int y4)]) hx hb dX5_shrinks_47 rfl hl (by decide) rfl (fun ls hl => ?_)
        refine lv_iinc (v := y4 + 1) (lv' := [(4, .int (y4 + 1)), (3, .int r7), (0, .ref (a 99)), (1, .int z1), (2, .int z2)]) hx hb dX5_shrinks_48 hl (k := 4) rfl rfl (by decide) rfl (fun ls hl => ?_)
        refine lv_goto (tgt := 37) hx hb dX5_shrinks_51 (by decide) ?_
        exact ih _ _ h _ _ hP hD hS ls (lv_sub hl [2, 3, 4, 1, 0] rfl)
  refine lv_iload_n hx hb dX5_shrinks_0 rfl (lv_at hl 1 rfl) ?_
  refine cl_Si (rn_S (rest := []) hx hb hml hown hT hl.1 ck_X5_62 (c_X5_isWhat l x1 _ h) ⟨rfl, rfl, (Nat.le_of_ble_eq_true rfl), (Nat.le_of_ble_eq_true rfl)⟩ ⟨Nat.zero_le _, Nat.zero_le _⟩ rfl rfl (Nat.le_of_ble_eq_true rfl) dX5_shrinks_1) (fun r1 h => ?_)
  refine lv_if_eq (tgt := 19) hx hb dX5_shrinks_4 (by decide) (fun ct => ?_) (fun ct => ?_)
  · have h := h.1 ct
    refine lv_aload_n hx hb dX5_shrinks_19 rfl (lv_at hl 0 rfl) ?_
    refine wi_allM (rn_V (rest := []) (ci := 3) hx hb hml hown hT hl.1 hC hS hP hD 0 rfl rfl rfl ck_X5_110 (c_X5_bad l G cs ts a H.size M L  _ h) ⟨rfl, rfl, (Nat.le_of_ble_eq_true rfl), (Nat.le_of_ble_eq_true rfl)⟩ ⟨Nat.le_refl _, Nat.le_refl _⟩ rfl rfl (Nat.le_of_ble_eq_true rfl) dX5_shrinks_20) hD hS hA (fun r2 M3 L4 H locs hP hD hS h => ?_)
    exact rt_Wi hx hb hr hlk dX5_shrinks_23 (M3, L4) hP hD hS h
  · have h := h.2 ct
    refine lv_iload_n hx hb dX5_shrinks_7 rfl (lv_at hl 2 rfl) ?_
    refine lv_i2l (v := x2.toInt64) hx hb dX5_shrinks_8 rfl ?_
    refine lv_lconst (v := 0) hx hb dX5_shrinks_9 (by decide) ?_
    refine ki_X5_193 hx hb hT hown dX5_shrinks_10 ?_
    refine cl_Si (rn_S (rest := []) hx hb hml hown hT hl.1 ck_X5_54 (c_X5_in l x2.toInt64 0 4 _ h) ⟨rfl, rfl, (Nat.le_of_ble_eq_true rfl), (Nat.le_of_ble_eq_true rfl)⟩ ⟨Nat.zero_le _, Nat.zero_le _⟩ rfl rfl (Nat.le_of_ble_eq_true rfl) dX5_shrinks_13) (fun r5 h => ?_)
    refine lv_if_ne (tgt := 24) hx hb dX5_shrinks_16 (by decide) (fun ct => ?_) (fun ct => ?_)
    · have h := h.1 ct
      refine lv_aload_n hx hb dX5_shrinks_24 rfl (lv_at hl 0 rfl) ?_
      refine gf_X5_7 hx hb hT hown hK hP 0 rfl rfl dX5_shrinks_25 ?_
      refine lv_bipush (v := 65) hx hb dX5_shrinks_28 (by decide) ?_
      refine lv_iload_n hx hb dX5_shrinks_30 rfl (lv_at hl 1 rfl) ?_
      refine lv_iadd hx hb dX5_shrinks_31 ?_
      obtain ⟨hi, h⟩ := h
      refine va_iald hx hb hK hP 1 0 rfl rfl hi dX5_shrinks_32 ?_
      refine lv_topi (fun v6 ev6 => ?_)
      have h := h v6 ev6
      refine lv_istore_n (lv' := [(3, .int v6), (0, .ref (a 99)), (1, .int x1), (2, .int x2)]) hx hb dX5_shrinks_33 rfl hl (by decide) rfl (fun ls hl => ?_)
      refine lv_iconst (v := 0) hx hb dX5_shrinks_34 (by decide) ?_
      refine lv_istore (lv' := [(4, .int 0), (3, .int v6), (0, .ref (a 99)), (1, .int x1), (2, .int x2)]) hx hb dX5_shrinks_35 hl (by decide) rfl (fun ls hl => ?_)
      obtain ⟨n10, h⟩ := h
      refine HL37 _ _ _ _ _ (fun v8 v9 h H locs hP hD hS ls hl => ?_) n10 _ _ h _ _ hP hD hS ls (lv_sub hl [2, 3, 4, 1, 0] rfl)
      refine lv_iload_n hx hb dX5_shrinks_54 rfl (lv_at hl 3 rfl) ?_
      exact rt_Wi hx hb hr hlk dX5_shrinks_55 (M, L) hP hD hS h
    · have h := h.2 ct
      refine lv_aload_n hx hb dX5_shrinks_19 rfl (lv_at hl 0 rfl) ?_
      refine wi_allM (rn_V (rest := []) (ci := 3) hx hb hml hown hT hl.1 hC hS hP hD 0 rfl rfl rfl ck_X5_110 (c_X5_bad l G cs ts a H.size M L  _ h) ⟨rfl, rfl, (Nat.le_of_ble_eq_true rfl), (Nat.le_of_ble_eq_true rfl)⟩ ⟨Nat.le_refl _, Nat.le_refl _⟩ rfl rfl (Nat.le_of_ble_eq_true rfl) dX5_shrinks_20) hD hS hA (fun r11 M12 L13 H locs hP hD hS h => ?_)
      exact rt_Wi hx hb hr hlk dX5_shrinks_23 (M12, L13) hP hD hS h
abbrev rm_X5_gone : Room := { frames := 2, cells := 0, slots := 0, locals := 47 }
set_option maxRecDepth 100000 in
set_option maxHeartbeats 4000000 in
theorem c_X5_gone (l : Launch) (G : va_G) (cs ts : Nat → Nat) (a : Nat → Nat) (sz : Nat)  (M : ZI) (L : ZL)   (x1 : Int32) (post : Int32 → ZI → ZL → Prop) (h : w_X5_gone M L x1 post) : Met l yX5_gone [.code yX5_gone cX5_gone 4 (some .int)] rm_X5_gone (va_Pc [.ref (a 99), .int x1] (CP G cs ts (mdW a cs M L) sz)) (va_Qi (fun (r : Int32) (u : ZI × ZL) => post r u.1 u.2) (CB G (va_A (mdW a cs M L) sz) (fun u => (mdW a cs u.1 u.2))) (va_A (mdW a cs M L) sz)) 0 0 (va_A (mdW a cs M L) sz) := by
  refine ax_W (Qc := fun A => va_Qi (fun (r : Int32) (u : ZI × ZL) => post r u.1 u.2) (CB G A (fun u => (mdW a cs u.1 u.2))) A) (by decide) (Nat.le_of_ble_eq_true rfl) sz ?_
  intro p e s m args below meth c A hx hb hr hlk hml hown hT hC hnm H locs hP hD hS ls hl
  have hK := hC.2.1
  have hA := hC.2.2
  have hl : lv_has ls 4 [(0, .ref (a 99)), (1, .int x1)] := hl
  unfold w_X5_gone at h
  have HL24 : ∀ (Mf : ZI) (Lf : ZL) (z1 : Int32) (K : Int32 → Int32 → Prop), (∀  (y2 : Int32) (y3 : Int32), K y2 y3 → ∀ (H : Heap) (locs : List Loc), va_P G vwCl (mdW a cs Mf Lf) H → va_D A (mdW a cs Mf Lf) → va_S A s.heap H locs → ∀ ls : Array Slot, lv_has ls 4 [(0, .ref (a 99)), (1, .int z1), (2, .int y2), (3, .int y3)] → W p l e rm_X5_gone s m args below meth c H locs 0 0 (MQ below (va_Qi (fun (r : Int32) (u : ZI × ZL) => post r u.1 u.2) (CB G A (fun u => (mdW a cs u.1 u.2))) A) args s 0 0 A) (F0 m 39 ls [])) → ∀ (n : Nat)  (y2 : Int32) (y3 : Int32), itF (w_X5_gone_L24 Mf Lf z1 post K) (fun _ _ => False) n y2 y3 → ∀ (H : Heap) (locs : List Loc), va_P G vwCl (mdW a cs Mf Lf) H → va_D A (mdW a cs Mf Lf) → va_S A s.heap H locs → ∀ ls : Array Slot, lv_has ls 4 [(0, .ref (a 99)), (1, .int z1), (2, .int y2), (3, .int y3)] → W p l e rm_X5_gone s m args below meth c H locs 0 0 (MQ below (va_Qi (fun (r : Int32) (u : ZI × ZL) => post r u.1 u.2) (CB G A (fun u => (mdW a cs u.1 u.2))) A) args s 0 0 A) (F0 m 24 ls []) := by
    intro Mf Lf z1 K hKK n
    induction n with
    | zero =>
      intro y2 y3 h
      exact absurd h id
    | succ n ih =>
      intro y2 y3 h H locs hP hD hS ls hl
      have h : w_X5_gone_L24 Mf Lf z1 post K (itF (w_X5_gone_L24 Mf Lf z1 post K) (fun _ _ => False) n) y2 y3 := h
      generalize itF (w_X5_gone_L24 Mf Lf z1 post K) (fun _ _ => False) n = rec at h ih
      unfold w_X5_gone_L24 at h
      refine lv_iload_n hx hb dX5_gone_24 rfl (lv_at hl 3 rfl) ?_
      refine lv_if_eq (tgt := 39) hx hb dX5_gone_25 (by decide) (fun ct => ?_) (fun ct => ?_)
      · have h := h.1 ct
        exact hKK _ _ h _ _ hP hD hS ls (lv_sub hl [0, 1, 2, 3] rfl)
      · have h := h.2 ct
        refine lv_iinc (v := y2 + 1) (lv' := [(2, .int (y2 + 1)), (0, .ref (a 99)), (1, .int z1), (3, .int y3)]) hx hb dX5_gone_28 hl (k := 2) rfl rfl (by decide) rfl (fun ls hl => ?_)
        refine lv_iload_n hx hb dX5_gone_31 rfl (lv_at hl 3 rfl) ?_
        refine cl_Si (rn_S (rest := []) hx hb hml hown hT hl.1 ck_X5_213 (c_X5_shrunk l y3 _ h) ⟨rfl, rfl, (Nat.le_of_ble_eq_true rfl), (Nat.le_of_ble_eq_true rfl)⟩ ⟨Nat.zero_le _, Nat.zero_le _⟩ rfl rfl (Nat.le_of_ble_eq_true rfl) dX5_gone_32) (fun r3 h => ?_)
        refine lv_istore_n (lv' := [(3, .int r3), (2, .int (y2 + 1)), (0, .ref (a 99)), (1, .int z1)]) hx hb dX5_gone_35 rfl hl (by decide) rfl (fun ls hl => ?_)
        refine lv_goto (tgt := 24) hx hb dX5_gone_36 (by decide) ?_
        exact ih _ _ h _ _ hP hD hS ls (lv_sub hl [2, 3, 1, 0] rfl)
  refine lv_iload_n hx hb dX5_gone_0 rfl (lv_at hl 1 rfl) ?_
  refine cl_Si (rn_S (rest := []) hx hb hml hown hT hl.1 ck_X5_62 (c_X5_isWhat l x1 _ h) ⟨rfl, rfl, (Nat.le_of_ble_eq_true rfl), (Nat.le_of_ble_eq_true rfl)⟩ ⟨Nat.zero_le _, Nat.zero_le _⟩ rfl rfl (Nat.le_of_ble_eq_true rfl) dX5_gone_1) (fun r1 h => ?_)
  refine lv_if_ne (tgt := 12) hx hb dX5_gone_4 (by decide) (fun ct => ?_) (fun ct => ?_)
  · have h := h.1 ct
    refine lv_iconst (v := 0) hx hb dX5_gone_12 (by decide) ?_
    refine lv_istore_n (lv' := [(2, .int 0), (0, .ref (a 99)), (1, .int x1)]) hx hb dX5_gone_13 rfl hl (by decide) rfl (fun ls hl => ?_)
    refine lv_aload_n hx hb dX5_gone_14 rfl (lv_at hl 1 rfl) ?_
    refine gf_X5_7 hx hb hT hown hK hP 0 rfl rfl dX5_gone_15 ?_
    refine lv_bipush (v := 65) hx hb dX5_gone_18 (by decide) ?_
    refine lv_iload_n hx hb dX5_gone_20 rfl (lv_at hl 2 rfl) ?_
    refine lv_iadd hx hb dX5_gone_21 ?_
    obtain ⟨hi, h⟩ := h
    refine va_iald hx hb hK hP 1 0 rfl rfl hi dX5_gone_22 ?_
    refine lv_topi (fun v2 ev2 => ?_)
    have h := h v2 ev2
    refine lv_istore_n (lv' := [(3, .int v2), (2, .int 0), (0, .ref (a 99)), (1, .int x1)]) hx hb dX5_gone_23 rfl hl (by decide) rfl (fun ls hl => ?_)
    obtain ⟨n6, h⟩ := h
    refine HL24 _ _ _ _ (fun v4 v5 h H locs hP hD hS ls hl => ?_) n6 _ _ h _ _ hP hD hS ls (lv_sub hl [2, 3, 1, 0] rfl)
    refine lv_iload_n hx hb dX5_gone_39 rfl (lv_at hl 2 rfl) ?_
    exact rt_Wi hx hb hr hlk dX5_gone_40 (M, L) hP hD hS h
  · have h := h.2 ct
    refine lv_aload_n hx hb dX5_gone_7 rfl (lv_at hl 0 rfl) ?_
    refine wi_allM (rn_V (rest := []) (ci := 3) hx hb hml hown hT hl.1 hC hS hP hD 0 rfl rfl rfl ck_X5_110 (c_X5_bad l G cs ts a H.size M L  _ h) ⟨rfl, rfl, (Nat.le_of_ble_eq_true rfl), (Nat.le_of_ble_eq_true rfl)⟩ ⟨Nat.le_refl _, Nat.le_refl _⟩ rfl rfl (Nat.le_of_ble_eq_true rfl) dX5_gone_8) hD hS hA (fun r7 M8 L9 H locs hP hD hS h => ?_)
    exact rt_Wi hx hb hr hlk dX5_gone_11 (M8, L9) hP hD hS h
abbrev rm_X5_seen : Room := { frames := 2, cells := 0, slots := 0, locals := 46 }
set_option maxRecDepth 100000 in
set_option maxHeartbeats 4000000 in
theorem c_X5_seen (l : Launch) (G : va_G) (cs ts : Nat → Nat) (a : Nat → Nat) (sz : Nat)  (M : ZI) (L : ZL)   (x1 : Int32) (x2 : Int32) (x3 : Int32) (post : Int32 → ZI → ZL → Prop) (h : w_X5_seen M L x1 x2 x3 post) : Met l yX5_seen [.code yX5_seen cX5_seen 4 (some .int)] rm_X5_seen (va_Pc [.ref (a 99), .int x1, .int x2, .int x3] (CP G cs ts (mdW a cs M L) sz)) (va_Qi (fun (r : Int32) (u : ZI × ZL) => post r u.1 u.2) (CB G (va_A (mdW a cs M L) sz) (fun u => (mdW a cs u.1 u.2))) (va_A (mdW a cs M L) sz)) 0 0 (va_A (mdW a cs M L) sz) := by
  refine ax_W (Qc := fun A => va_Qi (fun (r : Int32) (u : ZI × ZL) => post r u.1 u.2) (CB G A (fun u => (mdW a cs u.1 u.2))) A) (by decide) (Nat.le_of_ble_eq_true rfl) sz ?_
  intro p e s m args below meth c A hx hb hr hlk hml hown hT hC hnm H locs hP hD hS ls hl
  have hK := hC.2.1
  have hA := hC.2.2
  have hl : lv_has ls 4 [(0, .ref (a 99)), (1, .int x1), (2, .int x2), (3, .int x3)] := hl
  unfold w_X5_seen at h
  refine lv_iload_n hx hb dX5_seen_0 rfl (lv_at hl 1 rfl) ?_
  refine lv_iload_n hx hb dX5_seen_1 rfl (lv_at hl 2 rfl) ?_
  refine cl_Si (rn_S (rest := []) hx hb hml hown hT hl.1 ck_X5_66 (c_X5_isPlace l x1 x2 _ h) ⟨rfl, rfl, (Nat.le_of_ble_eq_true rfl), (Nat.le_of_ble_eq_true rfl)⟩ ⟨Nat.zero_le _, Nat.zero_le _⟩ rfl rfl (Nat.le_of_ble_eq_true rfl) dX5_seen_2) (fun r1 h => ?_)
  refine lv_if_eq (tgt := 15) hx hb dX5_seen_5 (by decide) (fun ct => ?_) (fun ct => ?_)
  · have h := h.1 ct
    refine lv_aload_n hx hb dX5_seen_15 rfl (lv_at hl 0 rfl) ?_
    refine wi_allM (rn_V (rest := []) (ci := 3) hx hb hml hown hT hl.1 hC hS hP hD 0 rfl rfl rfl ck_X5_110 (c_X5_bad l G cs ts a H.size M L  _ h) ⟨rfl, rfl, (Nat.le_of_ble_eq_true rfl), (Nat.le_of_ble_eq_true rfl)⟩ ⟨Nat.le_refl _, Nat.le_refl _⟩ rfl rfl (Nat.le_of_ble_eq_true rfl) dX5_seen_16) hD hS hA (fun r2 M3 L4 H locs hP hD hS h => ?_)
    exact rt_Wi hx hb hr hlk dX5_seen_19 (M3, L4) hP hD hS h
  · have h := h.2 ct
    refine lv_iload_n hx hb dX5_seen_8 rfl (lv_at hl 3 rfl) ?_
    refine cl_Si (rn_S (rest := []) hx hb hml hown hT hl.1 ck_X5_62 (c_X5_isWhat l x3 _ h) ⟨rfl, rfl, (Nat.le_of_ble_eq_true rfl), (Nat.le_of_ble_eq_true rfl)⟩ ⟨Nat.zero_le _, Nat.zero_le _⟩ rfl rfl (Nat.le_of_ble_eq_true rfl) dX5_seen_9) (fun r5 h => ?_)
    refine lv_if_ne (tgt := 20) hx hb dX5_seen_12 (by decide) (fun ct => ?_) (fun ct => ?_)
    · have h := h.1 ct
      refine lv_aload_n hx hb dX5_seen_20 rfl (lv_at hl 0 rfl) ?_
      refine gf_X5_7 hx hb hT hown hK hP 0 rfl rfl dX5_seen_21 ?_
      refine lv_bipush (v := 76) hx hb dX5_seen_24 (by decide) ?_
      have hi : vp_in 76 99 := by unfold vp_in; decide
      refine va_iald hx hb hK hP 1 0 rfl rfl hi dX5_seen_26 ?_
      refine lv_bipush (v := 8) hx hb dX5_seen_27 (by decide) ?_
      refine lv_icmp_ne (tgt := 37) hx hb dX5_seen_29 (by decide) (fun ct => ?_) (fun ct => ?_)
      · have h := h.1 ct
        refine lv_aload_n hx hb dX5_seen_37 rfl (lv_at hl 0 rfl) ?_
        refine gf_X5_7 hx hb hT hown hK hP 0 rfl rfl dX5_seen_38 ?_
        refine lv_bipush (v := 77) hx hb dX5_seen_41 (by decide) ?_
        refine lv_aload_n hx hb dX5_seen_43 rfl (lv_at hl 0 rfl) ?_
        refine gf_X5_7 hx hb hT hown hK hP 0 rfl rfl dX5_seen_44 ?_
        refine lv_bipush (v := 76) hx hb dX5_seen_47 (by decide) ?_
        have hi : vp_in 76 99 := by unfold vp_in; decide
        refine va_iald hx hb hK hP 1 0 rfl rfl hi dX5_seen_49 ?_
        refine lv_iadd hx hb dX5_seen_50 ?_
        refine lv_iconst (v := 2) hx hb dX5_seen_51 (by decide) ?_
        refine lv_bipush (v := 8) hx hb dX5_seen_52 (by decide) ?_
        refine lv_iload_n hx hb dX5_seen_54 rfl (lv_at hl 2 rfl) ?_
        refine lv_imul hx hb dX5_seen_55 ?_
        refine lv_iload_n hx hb dX5_seen_56 rfl (lv_at hl 1 rfl) ?_
        refine lv_iadd hx hb dX5_seen_57 ?_
        refine lv_imul hx hb dX5_seen_58 ?_
        refine lv_iload_n hx hb dX5_seen_59 rfl (lv_at hl 3 rfl) ?_
        refine lv_iadd hx hb dX5_seen_60 ?_
        obtain ⟨hi, h⟩ := h
        refine va_iast hx hb hK hP hD hS 1 0 rfl rfl hi dX5_seen_61 (fun H locs hP hD hS => ?_)
        obtain ⟨M6, eM6⟩ : ∃ z : ZI, z = mu M 0 (77 + (M 0 76)).toNatClampNeg ((2 * ((8 * x2) + x1)) + x3) := ⟨_, rfl⟩
        have h := h M6 eM6
        have hP : va_P G vwCl (mdW a cs M6 L) H := by rw [eM6]; exact hP
        have hD : va_D A (mdW a cs M6 L) := by rw [eM6]; exact hD
        refine lv_aload_n hx hb dX5_seen_62 rfl (lv_at hl 0 rfl) ?_
        refine gf_X5_7 hx hb hT hown hK hP 0 rfl rfl dX5_seen_63 ?_
        refine lv_bipush (v := 76) hx hb dX5_seen_66 (by decide) ?_
        refine lv_dup2_11 hx hb dX5_seen_68 rfl rfl ?_
        have hi : vp_in 76 99 := by unfold vp_in; decide
        refine va_iald hx hb hK hP 1 0 rfl rfl hi dX5_seen_69 ?_
        refine lv_iconst (v := 1) hx hb dX5_seen_70 (by decide) ?_
        refine lv_iadd hx hb dX5_seen_71 ?_
        have hi : vp_in 76 99 := by unfold vp_in; decide
        refine va_iast hx hb hK hP hD hS 1 0 rfl rfl hi dX5_seen_72 (fun H locs hP hD hS => ?_)
        obtain ⟨M7, eM7⟩ : ∃ z : ZI, z = mu M6 0 76 ((M6 0 76) + 1) := ⟨_, rfl⟩
        have h := h M7 eM7
        have hP : va_P G vwCl (mdW a cs M7 L) H := by rw [eM7]; exact hP
        have hD : va_D A (mdW a cs M7 L) := by rw [eM7]; exact hD
        refine lv_aload_n hx hb dX5_seen_73 rfl (lv_at hl 0 rfl) ?_
        refine gf_X5_7 hx hb hT hown hK hP 0 rfl rfl dX5_seen_74 ?_
        refine lv_bipush (v := 76) hx hb dX5_seen_77 (by decide) ?_
        have hi : vp_in 76 99 := by unfold vp_in; decide
        refine va_iald hx hb hK hP 1 0 rfl rfl hi dX5_seen_79 ?_
        exact rt_Wi hx hb hr hlk dX5_seen_80 (M7, L) hP hD hS h
      · have h := h.2 ct
        refine lv_aload_n hx hb dX5_seen_32 rfl (lv_at hl 0 rfl) ?_
        refine wi_allM (rn_V (rest := []) (ci := 3) hx hb hml hown hT hl.1 hC hS hP hD 0 rfl rfl rfl ck_X5_141 (c_X5_full l G cs ts a H.size M L  _ h) ⟨rfl, rfl, (Nat.le_of_ble_eq_true rfl), (Nat.le_of_ble_eq_true rfl)⟩ ⟨Nat.le_refl _, Nat.le_refl _⟩ rfl rfl (Nat.le_of_ble_eq_true rfl) dX5_seen_33) hD hS hA (fun r8 M9 L10 H locs hP hD hS h => ?_)
        exact rt_Wi hx hb hr hlk dX5_seen_36 (M9, L10) hP hD hS h
    · have h := h.2 ct
      refine lv_aload_n hx hb dX5_seen_15 rfl (lv_at hl 0 rfl) ?_
      refine wi_allM (rn_V (rest := []) (ci := 3) hx hb hml hown hT hl.1 hC hS hP hD 0 rfl rfl rfl ck_X5_110 (c_X5_bad l G cs ts a H.size M L  _ h) ⟨rfl, rfl, (Nat.le_of_ble_eq_true rfl), (Nat.le_of_ble_eq_true rfl)⟩ ⟨Nat.le_refl _, Nat.le_refl _⟩ rfl rfl (Nat.le_of_ble_eq_true rfl) dX5_seen_16) hD hS hA (fun r11 M12 L13 H locs hP hD hS h => ?_)
      exact rt_Wi hx hb hr hlk dX5_seen_19 (M12, L13) hP hD hS h
abbrev rm_X5_forget : Room := { frames := 2, cells := 0, slots := 0, locals := 45 }
set_option maxRecDepth 100000 in
set_option maxHeartbeats 4000000 in
theorem c_X5_forget (l : Launch) (G : va_G) (cs ts : Nat → Nat) (a : Nat → Nat) (sz : Nat)  (M : ZI) (L : ZL)   (x1 : Int32) (post : Int32 → ZI → ZL → Prop) (h : w_X5_forget M L x1 post) : Met l yX5_forget [.code yX5_forget cX5_forget 4 (some .int)] rm_X5_forget (va_Pc [.ref (a 99), .int x1] (CP G cs ts (mdW a cs M L) sz)) (va_Qi (fun (r : Int32) (u : ZI × ZL) => post r u.1 u.2) (CB G (va_A (mdW a cs M L) sz) (fun u => (mdW a cs u.1 u.2))) (va_A (mdW a cs M L) sz)) 0 0 (va_A (mdW a cs M L) sz) := by
  refine ax_W (Qc := fun A => va_Qi (fun (r : Int32) (u : ZI × ZL) => post r u.1 u.2) (CB G A (fun u => (mdW a cs u.1 u.2))) A) (by decide) (Nat.le_of_ble_eq_true rfl) sz ?_
  intro p e s m args below meth c A hx hb hr hlk hml hown hT hC hnm H locs hP hD hS ls hl
  have hK := hC.2.1
  have hA := hC.2.2
  have hl : lv_has ls 4 [(0, .ref (a 99)), (1, .int x1)] := hl
  unfold w_X5_forget at h
  refine lv_iload_n hx hb dX5_forget_0 rfl (lv_at hl 1 rfl) ?_
  refine cl_Si (rn_S (rest := []) hx hb hml hown hT hl.1 ck_X5_62 (c_X5_isWhat l x1 _ h) ⟨rfl, rfl, (Nat.le_of_ble_eq_true rfl), (Nat.le_of_ble_eq_true rfl)⟩ ⟨Nat.zero_le _, Nat.zero_le _⟩ rfl rfl (Nat.le_of_ble_eq_true rfl) dX5_forget_1) (fun r1 h => ?_)
  refine lv_if_ne (tgt := 12) hx hb dX5_forget_4 (by decide) (fun ct => ?_) (fun ct => ?_)
  · have h := h.1 ct
    refine lv_iload_n hx hb dX5_forget_12 rfl (lv_at hl 1 rfl) ?_
    refine lv_if_ne (tgt := 21) hx hb dX5_forget_13 (by decide) (fun ct => ?_) (fun ct => ?_)
    · have h := h.1 ct
      refine lv_bipush (v := 76) hx hb dX5_forget_21 (by decide) ?_
      refine lv_istore_n (lv' := [(2, .int 76), (0, .ref (a 99)), (1, .int x1)]) hx hb dX5_forget_23 rfl hl (by decide) rfl (fun ls hl => ?_)
      refine lv_aload_n hx hb dX5_forget_24 rfl (lv_at hl 1 rfl) ?_
      refine gf_X5_7 hx hb hT hown hK hP 0 rfl rfl dX5_forget_25 ?_
      refine lv_iload_n hx hb dX5_forget_28 rfl (lv_at hl 0 rfl) ?_
      have hi : vp_in 76 99 := by unfold vp_in; decide
      refine va_iald hx hb hK hP 1 0 rfl rfl hi dX5_forget_29 ?_
      refine lv_topi (fun v2 ev2 => ?_)
      have h := h v2 ev2
      refine lv_istore_n (lv' := [(3, .int v2), (2, .int 76), (0, .ref (a 99)), (1, .int x1)]) hx hb dX5_forget_30 rfl hl (by decide) rfl (fun ls hl => ?_)
      refine lv_aload_n hx hb dX5_forget_31 rfl (lv_at hl 2 rfl) ?_
      refine gf_X5_7 hx hb hT hown hK hP 0 rfl rfl dX5_forget_32 ?_
      refine lv_iload_n hx hb dX5_forget_35 rfl (lv_at hl 1 rfl) ?_
      refine lv_iconst (v := 0) hx hb dX5_forget_36 (by decide) ?_
      have hi : vp_in 76 99 := by unfold vp_in; decide
      refine va_iast hx hb hK hP hD hS 1 0 rfl rfl hi dX5_forget_37 (fun H locs hP hD hS => ?_)
      obtain ⟨M3, eM3⟩ : ∃ z : ZI, z = mu M 0 76 0 := ⟨_, rfl⟩
      have h := h M3 eM3
      have hP : va_P G vwCl (mdW a cs M3 L) H := by rw [eM3]; exact hP
      have hD : va_D A (mdW a cs M3 L) := by rw [eM3]; exact hD
      refine lv_iload_n hx hb dX5_forget_38 rfl (lv_at hl 0 rfl) ?_
      exact rt_Wi hx hb hr hlk dX5_forget_39 (M3, L) hP hD hS h
    · have h := h.2 ct
      refine lv_bipush (v := 67) hx hb dX5_forget_16 (by decide) ?_
      refine lv_goto (tgt := 23) hx hb dX5_forget_18 (by decide) ?_
      refine lv_istore_n (lv' := [(2, .int 67), (0, .ref (a 99)), (1, .int x1)]) hx hb dX5_forget_23 rfl hl (by decide) rfl (fun ls hl => ?_)
      refine lv_aload_n hx hb dX5_forget_24 rfl (lv_at hl 1 rfl) ?_
      refine gf_X5_7 hx hb hT hown hK hP 0 rfl rfl dX5_forget_25 ?_
      refine lv_iload_n hx hb dX5_forget_28 rfl (lv_at hl 0 rfl) ?_
      have hi : vp_in 67 99 := by unfold vp_in; decide
      refine va_iald hx hb hK hP 1 0 rfl rfl hi dX5_forget_29 ?_
      refine lv_topi (fun v4 ev4 => ?_)
      have h := h v4 ev4
      refine lv_istore_n (lv' := [(3, .int v4), (2, .int 67), (0, .ref (a 99)), (1, .int x1)]) hx hb dX5_forget_30 rfl hl (by decide) rfl (fun ls hl => ?_)
      refine lv_aload_n hx hb dX5_forget_31 rfl (lv_at hl 2 rfl) ?_
      refine gf_X5_7 hx hb hT hown hK hP 0 rfl rfl dX5_forget_32 ?_
      refine lv_iload_n hx hb dX5_forget_35 rfl (lv_at hl 1 rfl) ?_
      refine lv_iconst (v := 0) hx hb dX5_forget_36 (by decide) ?_
      have hi : vp_in 67 99 := by unfold vp_in; decide
      refine va_iast hx hb hK hP hD hS 1 0 rfl rfl hi dX5_forget_37 (fun H locs hP hD hS => ?_)
      obtain ⟨M5, eM5⟩ : ∃ z : ZI, z = mu M 0 67 0 := ⟨_, rfl⟩
      have h := h M5 eM5
      have hP : va_P G vwCl (mdW a cs M5 L) H := by rw [eM5]; exact hP
      have hD : va_D A (mdW a cs M5 L) := by rw [eM5]; exact hD
      refine lv_iload_n hx hb dX5_forget_38 rfl (lv_at hl 0 rfl) ?_
      exact rt_Wi hx hb hr hlk dX5_forget_39 (M5, L) hP hD hS h
  · have h := h.2 ct
    refine lv_aload_n hx hb dX5_forget_7 rfl (lv_at hl 0 rfl) ?_
    refine wi_allM (rn_V (rest := []) (ci := 3) hx hb hml hown hT hl.1 hC hS hP hD 0 rfl rfl rfl ck_X5_110 (c_X5_bad l G cs ts a H.size M L  _ h) ⟨rfl, rfl, (Nat.le_of_ble_eq_true rfl), (Nat.le_of_ble_eq_true rfl)⟩ ⟨Nat.le_refl _, Nat.le_refl _⟩ rfl rfl (Nat.le_of_ble_eq_true rfl) dX5_forget_8) hD hS hA (fun r6 M7 L8 H locs hP hD hS h => ?_)
    exact rt_Wi hx hb hr hlk dX5_forget_11 (M7, L8) hP hD hS h
abbrev rm_X5_canBe : Room := { frames := 2, cells := 0, slots := 0, locals := 50 }
set_option maxRecDepth 100000 in
set_option maxHeartbeats 4000000 in
theorem c_X5_canBe (l : Launch) (G : va_G) (cs ts : Nat → Nat) (a : Nat → Nat) (sz : Nat)  (M : ZI) (L : ZL)   (x1 : Int32) (x2 : Int32) (post : Int32 → ZI → ZL → Prop) (h : w_X5_canBe M L x1 x2 post) : Met l yX5_canBe [.code yX5_canBe cX5_canBe 7 (some .boolean)] rm_X5_canBe (va_Pc [.ref (a 99), .int x1, .int x2] (CP G cs ts (mdW a cs M L) sz)) (va_Qi (fun (r : Int32) (u : ZI × ZL) => post r u.1 u.2) (CB G (va_A (mdW a cs M L) sz) (fun u => (mdW a cs u.1 u.2))) (va_A (mdW a cs M L) sz)) 0 0 (va_A (mdW a cs M L) sz) := by
  refine ax_W (Qc := fun A => va_Qi (fun (r : Int32) (u : ZI × ZL) => post r u.1 u.2) (CB G A (fun u => (mdW a cs u.1 u.2))) A) (by decide) (Nat.le_of_ble_eq_true rfl) sz ?_
  intro p e s m args below meth c A hx hb hr hlk hml hown hT hC hnm H locs hP hD hS ls hl
  have hK := hC.2.1
  have hA := hC.2.2
  have hl : lv_has ls 7 [(0, .ref (a 99)), (1, .int x1), (2, .int x2)] := hl
  unfold w_X5_canBe at h
  have HL16 : ∀ (Mf : ZI) (Lf : ZL) (z1 : Int32) (z2 : Int32) (z3 : Int32) (K : Int32 → Int32 → Prop), (∀  (y4 : Int32) (y5 : Int32), K y4 y5 → ∀ (H : Heap) (locs : List Loc), va_P G vwCl (mdW a cs Mf Lf) H → va_D A (mdW a cs Mf Lf) → va_S A s.heap H locs → ∀ ls : Array Slot, lv_has ls 7 [(0, .ref (a 99)), (1, .int z1), (2, .int z2), (3, .int z3), (4, .int y4), (5, .int y5)] → W p l e rm_X5_canBe s m args below meth c H locs 0 0 (MQ below (va_Qi (fun (r : Int32) (u : ZI × ZL) => post r u.1 u.2) (CB G A (fun u => (mdW a cs u.1 u.2))) A) args s 0 0 A) (F0 m 93 ls [])) → ∀ (n : Nat)  (y4 : Int32) (y5 : Int32), itF (w_X5_canBe_L16 Mf Lf z1 z2 z3 post K) (fun _ _ => False) n y4 y5 → ∀ (H : Heap) (locs : List Loc), va_P G vwCl (mdW a cs Mf Lf) H → va_D A (mdW a cs Mf Lf) → va_S A s.heap H locs → ∀ ls : Array Slot, lv_has ls 7 [(0, .ref (a 99)), (1, .int z1), (2, .int z2), (3, .int z3), (4, .int y4), (5, .int y5)] → W p l e rm_X5_canBe s m args below meth c H locs 0 0 (MQ below (va_Qi (fun (r : Int32) (u : ZI × ZL) => post r u.1 u.2) (CB G A (fun u => (mdW a cs u.1 u.2))) A) args s 0 0 A) (F0 m 16 ls []) := by
    intro Mf Lf z1 z2 z3 K hKK n
    induction n with
    | zero =>
      intro y4 y5 h
      exact absurd h id
    | succ n ih =>
      intro y4 y5 h H locs hP hD hS ls hl
      have h : w_X5_canBe_L16 Mf Lf z1 z2 z3 post K (itF (w_X5_canBe_L16 Mf Lf z1 z2 z3 post K) (fun _ _ => False) n) y4 y5 := h
      generalize itF (w_X5_canBe_L16 Mf Lf z1 z2 z3 post K) (fun _ _ => False) n = rec at h ih
      unfold w_X5_canBe_L16 at h
      refine lv_iload hx hb dX5_canBe_16 (lv_at hl 5 rfl) ?_
      refine lv_aload_n hx hb dX5_canBe_18 rfl (lv_at hl 0 rfl) ?_
      refine gf_X5_7 hx hb hT hown hK hP 0 rfl rfl dX5_canBe_19 ?_
      refine lv_bipush (v := 76) hx hb dX5_canBe_22 (by decide) ?_
      have hi : vp_in 76 99 := by unfold vp_in; decide
      refine va_iald hx hb hK hP 1 0 rfl rfl hi dX5_canBe_24 ?_
      refine lv_icmp_ge (tgt := 93) hx hb dX5_canBe_25 (by decide) (fun ct => ?_) (fun ct => ?_)
      · have h := h.1 ct
        exact hKK _ _ h _ _ hP hD hS ls (lv_sub hl [0, 1, 2, 3, 4, 5] rfl)
      · have h := h.2 ct
        refine lv_aload_n hx hb dX5_canBe_28 rfl (lv_at hl 0 rfl) ?_
        refine gf_X5_7 hx hb hT hown hK hP 0 rfl rfl dX5_canBe_29 ?_
        refine lv_bipush (v := 77) hx hb dX5_canBe_32 (by decide) ?_
        refine lv_iload hx hb dX5_canBe_34 (lv_at hl 5 rfl) ?_
        refine lv_iadd hx hb dX5_canBe_36 ?_
        obtain ⟨hi, h⟩ := h
        refine va_iald hx hb hK hP 1 0 rfl rfl hi dX5_canBe_37 ?_
        refine lv_topi (fun v4 ev4 => ?_)
        have h := h v4 ev4
        refine lv_istore (lv' := [(6, .int v4), (0, .ref (a 99)), (1, .int z1), (2, .int z2), (3, .int z3), (4, .int y4), (5, .int y5)]) hx hb dX5_canBe_38 hl (by decide) rfl (fun ls hl => ?_)
        refine lv_iload hx hb dX5_canBe_40 (lv_at hl 5 rfl) ?_
        refine lv_if_eq (tgt := 84) hx hb dX5_canBe_42 (by decide) (fun ct => ?_) (fun ct => ?_)
        · have h := h.1 ct
          refine lv_iconst (v := 0) hx hb dX5_canBe_84 (by decide) ?_
          refine lv_istore (lv' := [(4, .int 0), (6, .int v4), (0, .ref (a 99)), (1, .int z1), (2, .int z2), (3, .int z3), (5, .int y5)]) hx hb dX5_canBe_85 hl (by decide) rfl (fun ls hl => ?_)
          refine lv_iinc (v := y5 + 1) (lv' := [(5, .int (y5 + 1)), (4, .int 0), (6, .int v4), (0, .ref (a 99)), (1, .int z1), (2, .int z2), (3, .int z3)]) hx hb dX5_canBe_87 hl (k := 6) rfl rfl (by decide) rfl (fun ls hl => ?_)
          refine lv_goto (tgt := 16) hx hb dX5_canBe_90 (by decide) ?_
          exact ih _ _ h _ _ hP hD hS ls (lv_sub hl [3, 4, 5, 6, 1, 0] rfl)
        · have h := h.2 ct
          refine lv_iload_n hx hb dX5_canBe_45 rfl (lv_at hl 4 rfl) ?_
          refine lv_iload_n hx hb dX5_canBe_46 rfl (lv_at hl 3 rfl) ?_
          refine lv_bipush (v := 8) hx hb dX5_canBe_47 (by decide) ?_
          refine lv_irem hx hb dX5_canBe_49 (by decide) ?_
          refine lv_iload_n hx hb dX5_canBe_50 rfl (lv_at hl 3 rfl) ?_
          refine lv_bipush (v := 8) hx hb dX5_canBe_51 (by decide) ?_
          refine lv_idiv hx hb dX5_canBe_53 (by decide) ?_
          refine lv_bipush (v := 8) hx hb dX5_canBe_54 (by decide) ?_
          refine lv_irem hx hb dX5_canBe_56 (by decide) ?_
          refine lv_iload hx hb dX5_canBe_57 (lv_at hl 0 rfl) ?_
          refine lv_iconst (v := 2) hx hb dX5_canBe_59 (by decide) ?_
          refine lv_idiv hx hb dX5_canBe_60 (by decide) ?_
          refine cl_Si (rn_S (rest := []) hx hb hml hown hT hl.1 ck_X5_200 (c_X5_covers l z3 (jrem z2 8) (jrem (z2 / 8) 8) (v4 / 2) _ h) ⟨rfl, rfl, (Nat.le_of_ble_eq_true rfl), (Nat.le_of_ble_eq_true rfl)⟩ ⟨Nat.zero_le _, Nat.zero_le _⟩ rfl rfl (Nat.le_of_ble_eq_true rfl) dX5_canBe_61) (fun r5 h => ?_)
          refine lv_iload hx hb dX5_canBe_64 (lv_at hl 0 rfl) ?_
          refine lv_iconst (v := 2) hx hb dX5_canBe_66 (by decide) ?_
          refine lv_irem hx hb dX5_canBe_67 (by decide) ?_
          refine lv_iconst (v := 1) hx hb dX5_canBe_68 (by decide) ?_
          refine lv_icmp_ne (tgt := 76) hx hb dX5_canBe_69 (by decide) (fun ct => ?_) (fun ct => ?_)
          · have h := h.1 ct
            refine lv_iconst (v := 0) hx hb dX5_canBe_76 (by decide) ?_
            refine lv_icmp_ne (tgt := 84) hx hb dX5_canBe_77 (by decide) (fun ct => ?_) (fun ct => ?_)
            · have h := h.1 ct
              refine lv_iconst (v := 0) hx hb dX5_canBe_84 (by decide) ?_
              refine lv_istore (lv' := [(4, .int 0), (6, .int v4), (0, .ref (a 99)), (1, .int z1), (2, .int z2), (3, .int z3), (5, .int y5)]) hx hb dX5_canBe_85 hl (by decide) rfl (fun ls hl => ?_)
              refine lv_iinc (v := y5 + 1) (lv' := [(5, .int (y5 + 1)), (4, .int 0), (6, .int v4), (0, .ref (a 99)), (1, .int z1), (2, .int z2), (3, .int z3)]) hx hb dX5_canBe_87 hl (k := 6) rfl rfl (by decide) rfl (fun ls hl => ?_)
              refine lv_goto (tgt := 16) hx hb dX5_canBe_90 (by decide) ?_
              exact ih _ _ h _ _ hP hD hS ls (lv_sub hl [3, 4, 5, 6, 1, 0] rfl)
            · have h := h.2 ct
              refine lv_iconst (v := 1) hx hb dX5_canBe_80 (by decide) ?_
              refine lv_goto (tgt := 85) hx hb dX5_canBe_81 (by decide) ?_
              refine lv_istore (lv' := [(4, .int 1), (6, .int v4), (0, .ref (a 99)), (1, .int z1), (2, .int z2), (3, .int z3), (5, .int y5)]) hx hb dX5_canBe_85 hl (by decide) rfl (fun ls hl => ?_)
              refine lv_iinc (v := y5 + 1) (lv' := [(5, .int (y5 + 1)), (4, .int 1), (6, .int v4), (0, .ref (a 99)), (1, .int z1), (2, .int z2), (3, .int z3)]) hx hb dX5_canBe_87 hl (k := 6) rfl rfl (by decide) rfl (fun ls hl => ?_)
              refine lv_goto (tgt := 16) hx hb dX5_canBe_90 (by decide) ?_
              exact ih _ _ h _ _ hP hD hS ls (lv_sub hl [3, 4, 5, 6, 1, 0] rfl)
          · have h := h.2 ct
            refine lv_iconst (v := 1) hx hb dX5_canBe_72 (by decide) ?_
            refine lv_goto (tgt := 77) hx hb dX5_canBe_73 (by decide) ?_
            refine lv_icmp_ne (tgt := 84) hx hb dX5_canBe_77 (by decide) (fun ct => ?_) (fun ct => ?_)
            · have h := h.1 ct
              refine lv_iconst (v := 0) hx hb dX5_canBe_84 (by decide) ?_
              refine lv_istore (lv' := [(4, .int 0), (6, .int v4), (0, .ref (a 99)), (1, .int z1), (2, .int z2), (3, .int z3), (5, .int y5)]) hx hb dX5_canBe_85 hl (by decide) rfl (fun ls hl => ?_)
              refine lv_iinc (v := y5 + 1) (lv' := [(5, .int (y5 + 1)), (4, .int 0), (6, .int v4), (0, .ref (a 99)), (1, .int z1), (2, .int z2), (3, .int z3)]) hx hb dX5_canBe_87 hl (k := 6) rfl rfl (by decide) rfl (fun ls hl => ?_)
              refine lv_goto (tgt := 16) hx hb dX5_canBe_90 (by decide) ?_
              exact ih _ _ h _ _ hP hD hS ls (lv_sub hl [3, 4, 5, 6, 1, 0] rfl)
            · have h := h.2 ct
              refine lv_iconst (v := 1) hx hb dX5_canBe_80 (by decide) ?_
              refine lv_goto (tgt := 85) hx hb dX5_canBe_81 (by decide) ?_
              refine lv_istore (lv' := [(4, .int 1), (6, .int v4), (0, .ref (a 99)), (1, .int z1), (2, .int z2), (3, .int z3), (5, .int y5)]) hx hb dX5_canBe_85 hl (by decide) rfl (fun ls hl => ?_)
              refine lv_iinc (v := y5 + 1) (lv' := [(5, .int (y5 + 1)), (4, .int 1), (6, .int v4), (0, .ref (a 99)), (1, .int z1), (2, .int z2), (3, .int z3)]) hx hb dX5_canBe_87 hl (k := 6) rfl rfl (by decide) rfl (fun ls hl => ?_)
              refine lv_goto (tgt := 16) hx hb dX5_canBe_90 (by decide) ?_
              exact ih _ _ h _ _ hP hD hS ls (lv_sub hl [3, 4, 5, 6, 1, 0] rfl)
  refine lv_aload_n hx hb dX5_canBe_0 rfl (lv_at hl 0 rfl) ?_
  refine lv_iload_n hx hb dX5_canBe_1 rfl (lv_at hl 1 rfl) ?_
  refine lv_iload_n hx hb dX5_canBe_2 rfl (lv_at hl 2 rfl) ?_
  refine lv_bipush (v := 64) hx hb dX5_canBe_3 (by decide) ?_
  refine lv_idiv hx hb dX5_canBe_5 (by decide) ?_
  refine wi_allM (rn_V (rest := []) (ci := 3) hx hb hml hown hT hl.1 hC hS hP hD 0 rfl rfl rfl ck_X5_90 (c_X5_looksOf l G cs ts a H.size M L x1 (x2 / 64) _ h) ⟨rfl, rfl, (Nat.le_of_ble_eq_true rfl), (Nat.le_of_ble_eq_true rfl)⟩ ⟨Nat.le_refl _, Nat.le_refl _⟩ rfl rfl (Nat.le_of_ble_eq_true rfl) dX5_canBe_6) hD hS hA (fun r1 M2 L3 H locs hP hD hS h => ?_)
  refine lv_istore_n (lv' := [(3, .int r1), (0, .ref (a 99)), (1, .int x1), (2, .int x2)]) hx hb dX5_canBe_9 rfl hl (by decide) rfl (fun ls hl => ?_)
  refine lv_iconst (v := 1) hx hb dX5_canBe_10 (by decide) ?_
  refine lv_istore (lv' := [(4, .int 1), (3, .int r1), (0, .ref (a 99)), (1, .int x1), (2, .int x2)]) hx hb dX5_canBe_11 hl (by decide) rfl (fun ls hl => ?_)
  refine lv_iconst (v := 0) hx hb dX5_canBe_13 (by decide) ?_
  refine lv_istore (lv' := [(5, .int 0), (4, .int 1), (3, .int r1), (0, .ref (a 99)), (1, .int x1), (2, .int x2)]) hx hb dX5_canBe_14 hl (by decide) rfl (fun ls hl => ?_)
  obtain ⟨n8, h⟩ := h
  refine HL16 _ _ _ _ _ _ (fun v6 v7 h H locs hP hD hS ls hl => ?_) n8 _ _ h _ _ hP hD hS ls (lv_sub hl [3, 4, 5, 2, 1, 0] rfl)
  refine lv_iload hx hb dX5_canBe_93 (lv_at hl 4 rfl) ?_
  exact rt_Wz hx hb hr hlk dX5_canBe_95 h.1 (M2, L3) hP hD hS h.2
abbrev rm_X5_which : Room := { frames := 3, cells := 0, slots := 0, locals := 76 }
set_option maxRecDepth 100000 in
set_option maxHeartbeats 4000000 in
theorem c_X5_which (l : Launch) (G : va_G) (cs ts : Nat → Nat) (a : Nat → Nat) (sz : Nat)  (M : ZI) (L : ZL)   (x1 : Int32) (x2 : Int32) (post : Int32 → ZI → ZL → Prop) (h : w_X5_which M L x1 x2 post) : Met l yX5_which [.code yX5_which cX5_which 7 (some .int)] rm_X5_which (va_Pc [.ref (a 99), .int x1, .int x2] (CP G cs ts (mdW a cs M L) sz)) (va_Qi (fun (r : Int32) (u : ZI × ZL) => post r u.1 u.2) (CB G (va_A (mdW a cs M L) sz) (fun u => (mdW a cs u.1 u.2))) (va_A (mdW a cs M L) sz)) 0 0 (va_A (mdW a cs M L) sz) := by
  refine ax_W (Qc := fun A => va_Qi (fun (r : Int32) (u : ZI × ZL) => post r u.1 u.2) (CB G A (fun u => (mdW a cs u.1 u.2))) A) (by decide) (Nat.le_of_ble_eq_true rfl) sz ?_
  intro p e s m args below meth c A hx hb hr hlk hml hown hT hC hnm H locs hP hD hS ls hl
  have hK := hC.2.1
  have hA := hC.2.2
  have hl : lv_has ls 7 [(0, .ref (a 99)), (1, .int x1), (2, .int x2)] := hl
  unfold w_X5_which at h
  have HL32 : ∀  (z1 : Int32) (z2 : Int32) (K : ZI → ZL → Int32 → Int32 → Int32 → Prop), (∀ (Mv : ZI) (Lv : ZL) (y3 : Int32) (y4 : Int32) (y5 : Int32), K Mv Lv y3 y4 y5 → ∀ (H : Heap) (locs : List Loc), va_P G vwCl (mdW a cs Mv Lv) H → va_D A (mdW a cs Mv Lv) → va_S A s.heap H locs → ∀ ls : Array Slot, lv_has ls 7 [(0, .ref (a 99)), (1, .int z1), (2, .int z2), (3, .int y3), (4, .int y4), (5, .int y5)] → W p l e rm_X5_which s m args below meth c H locs 0 0 (MQ below (va_Qi (fun (r : Int32) (u : ZI × ZL) => post r u.1 u.2) (CB G A (fun u => (mdW a cs u.1 u.2))) A) args s 0 0 A) (F0 m 82 ls [])) → ∀ (n : Nat) (Mv : ZI) (Lv : ZL) (y3 : Int32) (y4 : Int32) (y5 : Int32), itF (w_X5_which_L32 z1 z2 post K) (fun _ _ _ _ _ => False) n Mv Lv y3 y4 y5 → ∀ (H : Heap) (locs : List Loc), va_P G vwCl (mdW a cs Mv Lv) H → va_D A (mdW a cs Mv Lv) → va_S A s.heap H locs → ∀ ls : Array Slot, lv_has ls 7 [(0, .ref (a 99)), (1, .int z1), (2, .int z2), (3, .int y3), (4, .int y4), (5, .int y5)] → W p l e rm_X5_which s m args below meth c H locs 0 0 (MQ below (va_Qi (fun (r : Int32) (u : ZI × ZL) => post r u.1 u.2) (CB G A (fun u => (mdW a cs u.1 u.2))) A) args s 0 0 A) (F0 m 32 ls []) := by
    intro z1 z2 K hKK n
    induction n with
    | zero =>
      intro Mv Lv y3 y4 y5 h
      exact absurd h id
    | succ n ih =>
      intro Mv Lv y3 y4 y5 h H locs hP hD hS ls hl
      have h : w_X5_which_L32 z1 z2 post K (itF (w_X5_which_L32 z1 z2 post K) (fun _ _ _ _ _ => False) n) Mv Lv y3 y4 y5 := h
      generalize itF (w_X5_which_L32 z1 z2 post K) (fun _ _ _ _ _ => False) n = rec at h ih
      unfold w_X5_which_L32 at h
      refine lv_iload hx hb dX5_which_32 (lv_at hl 5 rfl) ?_
      refine lv_if_lt (tgt := 82) hx hb dX5_which_34 (by decide) (fun ct => ?_) (fun ct => ?_)
      · have h := h.1 ct
        exact hKK _ _ _ _ _ h _ _ hP hD hS ls (lv_sub hl [0, 1, 2, 3, 4, 5] rfl)
      · have h := h.2 ct
        refine lv_aload_n hx hb dX5_which_37 rfl (lv_at hl 0 rfl) ?_
        refine lv_iload_n hx hb dX5_which_38 rfl (lv_at hl 1 rfl) ?_
        refine lv_iload hx hb dX5_which_39 (lv_at hl 5 rfl) ?_
        refine wi_allM (rn_V (rest := []) (ci := 3) hx hb hml hown hT hl.1 hC hS hP hD 0 rfl rfl rfl ck_X5_216 (c_X5_canBe l G cs ts a H.size Mv Lv z1 y5 _ h) ⟨rfl, rfl, (Nat.le_of_ble_eq_true rfl), (Nat.le_of_ble_eq_true rfl)⟩ ⟨Nat.le_refl _, Nat.le_refl _⟩ rfl rfl (Nat.le_of_ble_eq_true rfl) dX5_which_41) hD hS hA (fun r6 M7 L8 H locs hP hD hS h => ?_)
        refine lv_istore (lv' := [(6, .int r6), (0, .ref (a 99)), (1, .int z1), (2, .int z2), (3, .int y3), (4, .int y4), (5, .int y5)]) hx hb dX5_which_44 hl (by decide) rfl (fun ls hl => ?_)
        refine lv_iload_n hx hb dX5_which_46 rfl (lv_at hl 4 rfl) ?_
        refine lv_iload hx hb dX5_which_47 (lv_at hl 0 rfl) ?_
        refine lv_if_eq (tgt := 56) hx hb dX5_which_49 (by decide) (fun ct => ?_) (fun ct => ?_)
        · have h := h.1 ct
          refine lv_iconst (v := 0) hx hb dX5_which_56 (by decide) ?_
          refine lv_iadd hx hb dX5_which_57 ?_
          refine lv_topi (fun v9 ev9 => ?_)
          have h := h v9 ev9
          refine lv_istore_n (lv' := [(3, .int v9), (6, .int r6), (0, .ref (a 99)), (1, .int z1), (2, .int z2), (4, .int y4), (5, .int y5)]) hx hb dX5_which_58 rfl hl (by decide) rfl (fun ls hl => ?_)
          refine lv_iload hx hb dX5_which_59 (lv_at hl 1 rfl) ?_
          refine lv_if_eq (tgt := 72) hx hb dX5_which_61 (by decide) (fun ct => ?_) (fun ct => ?_)
          · have h := h.1 ct
            refine lv_iload hx hb dX5_which_72 (lv_at hl 5 rfl) ?_
            refine lv_istore (lv' := [(4, .int y4), (3, .int v9), (6, .int r6), (0, .ref (a 99)), (1, .int z1), (2, .int z2), (5, .int y5)]) hx hb dX5_which_74 hl (by decide) rfl (fun ls hl => ?_)
            refine lv_iinc (v := y5 + (-1)) (lv' := [(5, .int (y5 + (-1))), (4, .int y4), (3, .int v9), (6, .int r6), (0, .ref (a 99)), (1, .int z1), (2, .int z2)]) hx hb dX5_which_76 hl (k := 6) rfl rfl (by decide) rfl (fun ls hl => ?_)
            refine lv_goto (tgt := 32) hx hb dX5_which_79 (by decide) ?_
            exact ih _ _ _ _ _ h _ _ hP hD hS ls (lv_sub hl [4, 5, 6, 2, 1, 0] rfl)
          · have h := h.2 ct
            refine lv_iload hx hb dX5_which_64 (lv_at hl 6 rfl) ?_
            refine cl_Si (rn_S (rest := []) hx hb hml hown hT hl.1 ck_X5_210 (c_X5_numberBy l y5 _ h) ⟨rfl, rfl, (Nat.le_of_ble_eq_true rfl), (Nat.le_of_ble_eq_true rfl)⟩ ⟨Nat.zero_le _, Nat.zero_le _⟩ rfl rfl (Nat.le_of_ble_eq_true rfl) dX5_which_66) (fun r10 h => ?_)
            refine lv_goto (tgt := 74) hx hb dX5_which_69 (by decide) ?_
            refine lv_istore (lv' := [(4, .int r10), (3, .int v9), (6, .int r6), (0, .ref (a 99)), (1, .int z1), (2, .int z2), (5, .int y5)]) hx hb dX5_which_74 hl (by decide) rfl (fun ls hl => ?_)
            refine lv_iinc (v := y5 + (-1)) (lv' := [(5, .int (y5 + (-1))), (4, .int r10), (3, .int v9), (6, .int r6), (0, .ref (a 99)), (1, .int z1), (2, .int z2)]) hx hb dX5_which_76 hl (k := 6) rfl rfl (by decide) rfl (fun ls hl => ?_)
            refine lv_goto (tgt := 32) hx hb dX5_which_79 (by decide) ?_
            exact ih _ _ _ _ _ h _ _ hP hD hS ls (lv_sub hl [4, 5, 6, 2, 1, 0] rfl)
        · have h := h.2 ct
          refine lv_iconst (v := 1) hx hb dX5_which_52 (by decide) ?_
          refine lv_goto (tgt := 57) hx hb dX5_which_53 (by decide) ?_
          refine lv_iadd hx hb dX5_which_57 ?_
          refine lv_topi (fun v11 ev11 => ?_)
          have h := h v11 ev11
          refine lv_istore_n (lv' := [(3, .int v11), (6, .int r6), (0, .ref (a 99)), (1, .int z1), (2, .int z2), (4, .int y4), (5, .int y5)]) hx hb dX5_which_58 rfl hl (by decide) rfl (fun ls hl => ?_)
          refine lv_iload hx hb dX5_which_59 (lv_at hl 1 rfl) ?_
          refine lv_if_eq (tgt := 72) hx hb dX5_which_61 (by decide) (fun ct => ?_) (fun ct => ?_)
          · have h := h.1 ct
            refine lv_iload hx hb dX5_which_72 (lv_at hl 5 rfl) ?_
            refine lv_istore (lv' := [(4, .int y4), (3, .int v11), (6, .int r6), (0, .ref (a 99)), (1, .int z1), (2, .int z2), (5, .int y5)]) hx hb dX5_which_74 hl (by decide) rfl (fun ls hl => ?_)
            refine lv_iinc (v := y5 + (-1)) (lv' := [(5, .int (y5 + (-1))), (4, .int y4), (3, .int v11), (6, .int r6), (0, .ref (a 99)), (1, .int z1), (2, .int z2)]) hx hb dX5_which_76 hl (k := 6) rfl rfl (by decide) rfl (fun ls hl => ?_)
            refine lv_goto (tgt := 32) hx hb dX5_which_79 (by decide) ?_
            exact ih _ _ _ _ _ h _ _ hP hD hS ls (lv_sub hl [4, 5, 6, 2, 1, 0] rfl)
          · have h := h.2 ct
            refine lv_iload hx hb dX5_which_64 (lv_at hl 6 rfl) ?_
            refine cl_Si (rn_S (rest := []) hx hb hml hown hT hl.1 ck_X5_210 (c_X5_numberBy l y5 _ h) ⟨rfl, rfl, (Nat.le_of_ble_eq_true rfl), (Nat.le_of_ble_eq_true rfl)⟩ ⟨Nat.zero_le _, Nat.zero_le _⟩ rfl rfl (Nat.le_of_ble_eq_true rfl) dX5_which_66) (fun r12 h => ?_)
            refine lv_goto (tgt := 74) hx hb dX5_which_69 (by decide) ?_
            refine lv_istore (lv' := [(4, .int r12), (3, .int v11), (6, .int r6), (0, .ref (a 99)), (1, .int z1), (2, .int z2), (5, .int y5)]) hx hb dX5_which_74 hl (by decide) rfl (fun ls hl => ?_)
            refine lv_iinc (v := y5 + (-1)) (lv' := [(5, .int (y5 + (-1))), (4, .int r12), (3, .int v11), (6, .int r6), (0, .ref (a 99)), (1, .int z1), (2, .int z2)]) hx hb dX5_which_76 hl (k := 6) rfl rfl (by decide) rfl (fun ls hl => ?_)
            refine lv_goto (tgt := 32) hx hb dX5_which_79 (by decide) ?_
            exact ih _ _ _ _ _ h _ _ hP hD hS ls (lv_sub hl [4, 5, 6, 2, 1, 0] rfl)
  refine lv_iload_n hx hb dX5_which_0 rfl (lv_at hl 1 rfl) ?_
  refine cl_Si (rn_S (rest := []) hx hb hml hown hT hl.1 ck_X5_62 (c_X5_isWhat l x1 _ h) ⟨rfl, rfl, (Nat.le_of_ble_eq_true rfl), (Nat.le_of_ble_eq_true rfl)⟩ ⟨Nat.zero_le _, Nat.zero_le _⟩ rfl rfl (Nat.le_of_ble_eq_true rfl) dX5_which_1) (fun r1 h => ?_)
  refine lv_if_eq (tgt := 14) hx hb dX5_which_4 (by decide) (fun ct => ?_) (fun ct => ?_)
  · have h := h.1 ct
    refine lv_aload_n hx hb dX5_which_14 rfl (lv_at hl 0 rfl) ?_
    refine wi_allM (rn_V (rest := []) (ci := 3) hx hb hml hown hT hl.1 hC hS hP hD 0 rfl rfl rfl ck_X5_110 (c_X5_bad l G cs ts a H.size M L  _ h) ⟨rfl, rfl, (Nat.le_of_ble_eq_true rfl), (Nat.le_of_ble_eq_true rfl)⟩ ⟨Nat.le_refl _, Nat.le_refl _⟩ rfl rfl (Nat.le_of_ble_eq_true rfl) dX5_which_15) hD hS hA (fun r2 M3 L4 H locs hP hD hS h => ?_)
    refine lv_pop hx hb dX5_which_18 rfl ?_
    refine lv_bipush (v := (-10)) hx hb dX5_which_19 (by decide) ?_
    exact rt_Wi hx hb hr hlk dX5_which_21 (M3, L4) hP hD hS h
  · have h := h.2 ct
    refine lv_iload_n hx hb dX5_which_7 rfl (lv_at hl 2 rfl) ?_
    refine cl_Si (rn_S (rest := []) hx hb hml hown hT hl.1 ck_X5_62 (c_X5_isWhat l x2 _ h) ⟨rfl, rfl, (Nat.le_of_ble_eq_true rfl), (Nat.le_of_ble_eq_true rfl)⟩ ⟨Nat.zero_le _, Nat.zero_le _⟩ rfl rfl (Nat.le_of_ble_eq_true rfl) dX5_which_8) (fun r5 h => ?_)
    refine lv_if_ne (tgt := 22) hx hb dX5_which_11 (by decide) (fun ct => ?_) (fun ct => ?_)
    · have h := h.1 ct
      refine lv_iconst (v := 0) hx hb dX5_which_22 (by decide) ?_
      refine lv_istore_n (lv' := [(3, .int 0), (0, .ref (a 99)), (1, .int x1), (2, .int x2)]) hx hb dX5_which_23 rfl hl (by decide) rfl (fun ls hl => ?_)
      refine lv_iconst (v := (-1)) hx hb dX5_which_24 (by decide) ?_
      refine lv_istore (lv' := [(4, .int (-1)), (3, .int 0), (0, .ref (a 99)), (1, .int x1), (2, .int x2)]) hx hb dX5_which_25 hl (by decide) rfl (fun ls hl => ?_)
      refine lv_sipush (v := 255) hx hb dX5_which_27 (by decide) ?_
      refine lv_istore (lv' := [(5, .int 255), (4, .int (-1)), (3, .int 0), (0, .ref (a 99)), (1, .int x1), (2, .int x2)]) hx hb dX5_which_30 hl (by decide) rfl (fun ls hl => ?_)
      obtain ⟨n18, h⟩ := h
      refine HL32 _ _ _ (fun M13 L14 v15 v16 v17 h H locs hP hD hS ls hl => ?_) n18 _ _ _ _ _ h _ _ hP hD hS ls (lv_sub hl [3, 4, 5, 2, 1, 0] rfl)
      refine lv_iload_n hx hb dX5_which_82 rfl (lv_at hl 2 rfl) ?_
      refine lv_if_ne (tgt := 90) hx hb dX5_which_83 (by decide) (fun ct => ?_) (fun ct => ?_)
      · have h := h.1 ct
        refine lv_iload hx hb dX5_which_90 (lv_at hl 4 rfl) ?_
        exact rt_Wi hx hb hr hlk dX5_which_92 (M13, L14) hP hD hS h
      · have h := h.2 ct
        refine lv_iload_n hx hb dX5_which_86 rfl (lv_at hl 3 rfl) ?_
        refine lv_goto (tgt := 92) hx hb dX5_which_87 (by decide) ?_
        exact rt_Wi hx hb hr hlk dX5_which_92 (M13, L14) hP hD hS h
    · have h := h.2 ct
      refine lv_aload_n hx hb dX5_which_14 rfl (lv_at hl 0 rfl) ?_
      refine wi_allM (rn_V (rest := []) (ci := 3) hx hb hml hown hT hl.1 hC hS hP hD 0 rfl rfl rfl ck_X5_110 (c_X5_bad l G cs ts a H.size M L  _ h) ⟨rfl, rfl, (Nat.le_of_ble_eq_true rfl), (Nat.le_of_ble_eq_true rfl)⟩ ⟨Nat.le_refl _, Nat.le_refl _⟩ rfl rfl (Nat.le_of_ble_eq_true rfl) dX5_which_15) hD hS hA (fun r19 M20 L21 H locs hP hD hS h => ?_)
      refine lv_pop hx hb dX5_which_18 rfl ?_
      refine lv_bipush (v := (-10)) hx hb dX5_which_19 (by decide) ?_
      exact rt_Wi hx hb hr hlk dX5_which_21 (M20, L21) hP hD hS h
abbrev rm_X5_look : Room := { frames := 3, cells := 0, slots := 0, locals := 76 }
set_option maxRecDepth 100000 in
set_option maxHeartbeats 4000000 in
theorem c_X5_look (l : Launch) (G : va_G) (cs ts : Nat → Nat) (a : Nat → Nat) (sz : Nat)  (M : ZI) (L : ZL)   (x1 : Int32) (post : Int32 → ZI → ZL → Prop) (h : w_X5_look M L x1 post) : Met l yX5_look [.code yX5_look cX5_look 7 (some .int)] rm_X5_look (va_Pc [.ref (a 99), .int x1] (CP G cs ts (mdW a cs M L) sz)) (va_Qi (fun (r : Int32) (u : ZI × ZL) => post r u.1 u.2) (CB G (va_A (mdW a cs M L) sz) (fun u => (mdW a cs u.1 u.2))) (va_A (mdW a cs M L) sz)) 0 0 (va_A (mdW a cs M L) sz) := by
  refine ax_W (Qc := fun A => va_Qi (fun (r : Int32) (u : ZI × ZL) => post r u.1 u.2) (CB G A (fun u => (mdW a cs u.1 u.2))) A) (by decide) (Nat.le_of_ble_eq_true rfl) sz ?_
  intro p e s m args below meth c A hx hb hr hlk hml hown hT hC hnm H locs hP hD hS ls hl
  have hK := hC.2.1
  have hA := hC.2.2
  have hl : lv_has ls 7 [(0, .ref (a 99)), (1, .int x1)] := hl
  unfold w_X5_look at h
  have HL14 : ∀ (Lf : ZL) (z1 : Int32) (K : ZI → Int32 → Prop), (∀ (Mv : ZI) (y2 : Int32), K Mv y2 → ∀ (H : Heap) (locs : List Loc), va_P G vwCl (mdW a cs Mv Lf) H → va_D A (mdW a cs Mv Lf) → va_S A s.heap H locs → ∀ ls : Array Slot, lv_has ls 7 [(0, .ref (a 99)), (1, .int z1), (2, .int y2)] → W p l e rm_X5_look s m args below meth c H locs 0 0 (MQ below (va_Qi (fun (r : Int32) (u : ZI × ZL) => post r u.1 u.2) (CB G A (fun u => (mdW a cs u.1 u.2))) A) args s 0 0 A) (F0 m 33 ls [])) → ∀ (n : Nat) (Mv : ZI) (y2 : Int32), itF (w_X5_look_L14 Lf z1 post K) (fun _ _ => False) n Mv y2 → ∀ (H : Heap) (locs : List Loc), va_P G vwCl (mdW a cs Mv Lf) H → va_D A (mdW a cs Mv Lf) → va_S A s.heap H locs → ∀ ls : Array Slot, lv_has ls 7 [(0, .ref (a 99)), (1, .int z1), (2, .int y2)] → W p l e rm_X5_look s m args below meth c H locs 0 0 (MQ below (va_Qi (fun (r : Int32) (u : ZI × ZL) => post r u.1 u.2) (CB G A (fun u => (mdW a cs u.1 u.2))) A) args s 0 0 A) (F0 m 14 ls []) := by
    intro Lf z1 K hKK n
    induction n with
    | zero =>
      intro Mv y2 h
      exact absurd h id
    | succ n ih =>
      intro Mv y2 h H locs hP hD hS ls hl
      have h : w_X5_look_L14 Lf z1 post K (itF (w_X5_look_L14 Lf z1 post K) (fun _ _ => False) n) Mv y2 := h
      generalize itF (w_X5_look_L14 Lf z1 post K) (fun _ _ => False) n = rec at h ih
      unfold w_X5_look_L14 at h
      refine lv_iload_n hx hb dX5_look_14 rfl (lv_at hl 2 rfl) ?_
      refine lv_bipush (v := 64) hx hb dX5_look_15 (by decide) ?_
      refine lv_icmp_ge (tgt := 33) hx hb dX5_look_17 (by decide) (fun ct => ?_) (fun ct => ?_)
      · have h := h.1 ct
        exact hKK _ _ h _ _ hP hD hS ls (lv_sub hl [0, 1, 2] rfl)
      · have h := h.2 ct
        refine lv_aload_n hx hb dX5_look_20 rfl (lv_at hl 0 rfl) ?_
        refine gf_X5_35 hx hb hT hown hK hP 0 rfl rfl dX5_look_21 ?_
        refine lv_iload_n hx hb dX5_look_24 rfl (lv_at hl 2 rfl) ?_
        refine lv_iconst (v := 0) hx hb dX5_look_25 (by decide) ?_
        obtain ⟨hi, h⟩ := h
        refine va_iast hx hb hK hP hD hS 8 0 rfl rfl hi dX5_look_26 (fun H locs hP hD hS => ?_)
        obtain ⟨M2, eM2⟩ : ∃ z : ZI, z = mu Mv 15 y2.toNatClampNeg 0 := ⟨_, rfl⟩
        have h := h M2 eM2
        have hP : va_P G vwCl (mdW a cs M2 Lf) H := by rw [eM2]; exact hP
        have hD : va_D A (mdW a cs M2 Lf) := by rw [eM2]; exact hD
        refine lv_iinc (v := y2 + 1) (lv' := [(2, .int (y2 + 1)), (0, .ref (a 99)), (1, .int z1)]) hx hb dX5_look_27 hl (k := 2) rfl rfl (by decide) rfl (fun ls hl => ?_)
        refine lv_goto (tgt := 14) hx hb dX5_look_30 (by decide) ?_
        exact ih _ _ h _ _ hP hD hS ls (lv_sub hl [1, 2, 0] rfl)
  have HL70 : ∀ (Lf : ZL) (z1 : Int32) (z2 : Int32) (z3 : Int32) (z4 : Int32) (K : ZI → Int32 → Prop), (∀ (Mv : ZI) (y5 : Int32), K Mv y5 → ∀ (H : Heap) (locs : List Loc), va_P G vwCl (mdW a cs Mv Lf) H → va_D A (mdW a cs Mv Lf) → va_S A s.heap H locs → ∀ ls : Array Slot, lv_has ls 7 [(0, .ref (a 99)), (1, .int z1), (2, .int z2), (3, .int z3), (4, .int z4), (5, .int y5)] → W p l e rm_X5_look s m args below meth c H locs 0 0 (MQ below (va_Qi (fun (r : Int32) (u : ZI × ZL) => post r u.1 u.2) (CB G A (fun u => (mdW a cs u.1 u.2))) A) args s 0 0 A) (F0 m 119 ls [])) → ∀ (n : Nat) (Mv : ZI) (y5 : Int32), itF (w_X5_look_L70 Lf z1 z2 z3 z4 post K) (fun _ _ => False) n Mv y5 → ∀ (H : Heap) (locs : List Loc), va_P G vwCl (mdW a cs Mv Lf) H → va_D A (mdW a cs Mv Lf) → va_S A s.heap H locs → ∀ ls : Array Slot, lv_has ls 7 [(0, .ref (a 99)), (1, .int z1), (2, .int z2), (3, .int z3), (4, .int z4), (5, .int y5)] → W p l e rm_X5_look s m args below meth c H locs 0 0 (MQ below (va_Qi (fun (r : Int32) (u : ZI × ZL) => post r u.1 u.2) (CB G A (fun u => (mdW a cs u.1 u.2))) A) args s 0 0 A) (F0 m 70 ls []) := by
    intro Lf z1 z2 z3 z4 K hKK n
    induction n with
    | zero =>
      intro Mv y5 h
      exact absurd h id
    | succ n ih =>
      intro Mv y5 h H locs hP hD hS ls hl
      have h : w_X5_look_L70 Lf z1 z2 z3 z4 post K (itF (w_X5_look_L70 Lf z1 z2 z3 z4 post K) (fun _ _ => False) n) Mv y5 := h
      generalize itF (w_X5_look_L70 Lf z1 z2 z3 z4 post K) (fun _ _ => False) n = rec at h ih
      unfold w_X5_look_L70 at h
      refine lv_iload hx hb dX5_look_70 (lv_at hl 5 rfl) ?_
      refine lv_bipush (v := 64) hx hb dX5_look_72 (by decide) ?_
      refine lv_icmp_ge (tgt := 119) hx hb dX5_look_74 (by decide) (fun ct => ?_) (fun ct => ?_)
      · have h := h.1 ct
        exact hKK _ _ h _ _ hP hD hS ls (lv_sub hl [0, 1, 2, 3, 4, 5] rfl)
      · have h := h.2 ct
        refine lv_aload_n hx hb dX5_look_77 rfl (lv_at hl 0 rfl) ?_
        refine gf_X5_35 hx hb hT hown hK hP 0 rfl rfl dX5_look_78 ?_
        refine lv_iload hx hb dX5_look_81 (lv_at hl 5 rfl) ?_
        refine lv_dup2_11 hx hb dX5_look_83 rfl rfl ?_
        obtain ⟨hi, h⟩ := h
        refine va_iald hx hb hK hP 8 0 rfl rfl hi dX5_look_84 ?_
        refine lv_iload hx hb dX5_look_85 (lv_at hl 4 rfl) ?_
        refine lv_iload_n hx hb dX5_look_87 rfl (lv_at hl 3 rfl) ?_
        refine lv_bipush (v := 8) hx hb dX5_look_88 (by decide) ?_
        refine lv_irem hx hb dX5_look_90 (by decide) ?_
        refine lv_iload_n hx hb dX5_look_91 rfl (lv_at hl 3 rfl) ?_
        refine lv_bipush (v := 8) hx hb dX5_look_92 (by decide) ?_
        refine lv_idiv hx hb dX5_look_94 (by decide) ?_
        refine lv_bipush (v := 8) hx hb dX5_look_95 (by decide) ?_
        refine lv_irem hx hb dX5_look_97 (by decide) ?_
        refine lv_iload hx hb dX5_look_98 (lv_at hl 5 rfl) ?_
        refine cl_Si (rn_S (rest := [.int (Mv 15 y5.toNatClampNeg), .int y5, .ref (a 15)]) hx hb hml hown hT hl.1 ck_X5_200 (c_X5_covers l z4 (jrem z3 8) (jrem (z3 / 8) 8) y5 _ h) ⟨rfl, rfl, (Nat.le_of_ble_eq_true rfl), (Nat.le_of_ble_eq_true rfl)⟩ ⟨Nat.zero_le _, Nat.zero_le _⟩ rfl rfl (Nat.le_of_ble_eq_true rfl) dX5_look_100) (fun r11 h => ?_)
        refine lv_if_eq (tgt := 110) hx hb dX5_look_103 (by decide) (fun ct => ?_) (fun ct => ?_)
        · have h := h.1 ct
          refine lv_iconst (v := 0) hx hb dX5_look_110 (by decide) ?_
          refine lv_iadd hx hb dX5_look_111 ?_
          obtain ⟨hi, h⟩ := h
          refine va_iast hx hb hK hP hD hS 8 0 rfl rfl hi dX5_look_112 (fun H locs hP hD hS => ?_)
          obtain ⟨M12, eM12⟩ : ∃ z : ZI, z = mu Mv 15 y5.toNatClampNeg ((Mv 15 y5.toNatClampNeg) + 0) := ⟨_, rfl⟩
          have h := h M12 eM12
          have hP : va_P G vwCl (mdW a cs M12 Lf) H := by rw [eM12]; exact hP
          have hD : va_D A (mdW a cs M12 Lf) := by rw [eM12]; exact hD
          refine lv_iinc (v := y5 + 1) (lv' := [(5, .int (y5 + 1)), (0, .ref (a 99)), (1, .int z1), (2, .int z2), (3, .int z3), (4, .int z4)]) hx hb dX5_look_113 hl (k := 5) rfl rfl (by decide) rfl (fun ls hl => ?_)
          refine lv_goto (tgt := 70) hx hb dX5_look_116 (by decide) ?_
          exact ih _ _ h _ _ hP hD hS ls (lv_sub hl [1, 2, 3, 4, 5, 0] rfl)
        · have h := h.2 ct
          refine lv_iconst (v := 1) hx hb dX5_look_106 (by decide) ?_
          refine lv_goto (tgt := 111) hx hb dX5_look_107 (by decide) ?_
          refine lv_iadd hx hb dX5_look_111 ?_
          obtain ⟨hi, h⟩ := h
          refine va_iast hx hb hK hP hD hS 8 0 rfl rfl hi dX5_look_112 (fun H locs hP hD hS => ?_)
          obtain ⟨M13, eM13⟩ : ∃ z : ZI, z = mu Mv 15 y5.toNatClampNeg ((Mv 15 y5.toNatClampNeg) + 1) := ⟨_, rfl⟩
          have h := h M13 eM13
          have hP : va_P G vwCl (mdW a cs M13 Lf) H := by rw [eM13]; exact hP
          have hD : va_D A (mdW a cs M13 Lf) := by rw [eM13]; exact hD
          refine lv_iinc (v := y5 + 1) (lv' := [(5, .int (y5 + 1)), (0, .ref (a 99)), (1, .int z1), (2, .int z2), (3, .int z3), (4, .int z4)]) hx hb dX5_look_113 hl (k := 5) rfl rfl (by decide) rfl (fun ls hl => ?_)
          refine lv_goto (tgt := 70) hx hb dX5_look_116 (by decide) ?_
          exact ih _ _ h _ _ hP hD hS ls (lv_sub hl [1, 2, 3, 4, 5, 0] rfl)
  have HL37 : ∀  (z1 : Int32) (K : ZI → ZL → Int32 → Int32 → Prop), (∀ (Mv : ZI) (Lv : ZL) (y2 : Int32) (y3 : Int32), K Mv Lv y2 y3 → ∀ (H : Heap) (locs : List Loc), va_P G vwCl (mdW a cs Mv Lv) H → va_D A (mdW a cs Mv Lv) → va_S A s.heap H locs → ∀ ls : Array Slot, lv_has ls 7 [(0, .ref (a 99)), (1, .int z1), (2, .int y2), (3, .int y3)] → W p l e rm_X5_look s m args below meth c H locs 0 0 (MQ below (va_Qi (fun (r : Int32) (u : ZI × ZL) => post r u.1 u.2) (CB G A (fun u => (mdW a cs u.1 u.2))) A) args s 0 0 A) (F0 m 125 ls [])) → ∀ (n : Nat) (Mv : ZI) (Lv : ZL) (y2 : Int32) (y3 : Int32), itF (w_X5_look_L37 z1 post K) (fun _ _ _ _ => False) n Mv Lv y2 y3 → ∀ (H : Heap) (locs : List Loc), va_P G vwCl (mdW a cs Mv Lv) H → va_D A (mdW a cs Mv Lv) → va_S A s.heap H locs → ∀ ls : Array Slot, lv_has ls 7 [(0, .ref (a 99)), (1, .int z1), (2, .int y2), (3, .int y3)] → W p l e rm_X5_look s m args below meth c H locs 0 0 (MQ below (va_Qi (fun (r : Int32) (u : ZI × ZL) => post r u.1 u.2) (CB G A (fun u => (mdW a cs u.1 u.2))) A) args s 0 0 A) (F0 m 37 ls []) := by
    intro z1 K hKK n
    induction n with
    | zero =>
      intro Mv Lv y2 y3 h
      exact absurd h id
    | succ n ih =>
      intro Mv Lv y2 y3 h H locs hP hD hS ls hl
      have h : w_X5_look_L37 z1 post K (itF (w_X5_look_L37 z1 post K) (fun _ _ _ _ => False) n) Mv Lv y2 y3 := h
      generalize itF (w_X5_look_L37 z1 post K) (fun _ _ _ _ => False) n = rec at h ih
      unfold w_X5_look_L37 at h
      refine lv_iload_n hx hb dX5_look_37 rfl (lv_at hl 3 rfl) ?_
      refine lv_sipush (v := 256) hx hb dX5_look_38 (by decide) ?_
      refine lv_icmp_ge (tgt := 125) hx hb dX5_look_41 (by decide) (fun ct => ?_) (fun ct => ?_)
      · have h := h.1 ct
        exact hKK _ _ _ _ h _ _ hP hD hS ls (lv_sub hl [0, 1, 2, 3] rfl)
      · have h := h.2 ct
        refine lv_aload_n hx hb dX5_look_44 rfl (lv_at hl 0 rfl) ?_
        refine lv_iload_n hx hb dX5_look_45 rfl (lv_at hl 1 rfl) ?_
        refine lv_iload_n hx hb dX5_look_46 rfl (lv_at hl 3 rfl) ?_
        refine wi_allM (rn_V (rest := []) (ci := 3) hx hb hml hown hT hl.1 hC hS hP hD 0 rfl rfl rfl ck_X5_216 (c_X5_canBe l G cs ts a H.size Mv Lv z1 y3 _ h) ⟨rfl, rfl, (Nat.le_of_ble_eq_true rfl), (Nat.le_of_ble_eq_true rfl)⟩ ⟨Nat.le_refl _, Nat.le_refl _⟩ rfl rfl (Nat.le_of_ble_eq_true rfl) dX5_look_47) hD hS hA (fun r5 M6 L7 H locs hP hD hS h => ?_)
        refine lv_if_eq (tgt := 119) hx hb dX5_look_50 (by decide) (fun ct => ?_) (fun ct => ?_)
        · have h := h.1 ct
          refine lv_iinc (v := y3 + 1) (lv' := [(3, .int (y3 + 1)), (0, .ref (a 99)), (1, .int z1), (2, .int y2)]) hx hb dX5_look_119 hl (k := 3) rfl rfl (by decide) rfl (fun ls hl => ?_)
          refine lv_goto (tgt := 37) hx hb dX5_look_122 (by decide) ?_
          exact ih _ _ _ _ h _ _ hP hD hS ls (lv_sub hl [1, 2, 3, 0] rfl)
        · have h := h.2 ct
          refine lv_aload_n hx hb dX5_look_53 rfl (lv_at hl 0 rfl) ?_
          refine lv_iload_n hx hb dX5_look_54 rfl (lv_at hl 1 rfl) ?_
          refine lv_iload_n hx hb dX5_look_55 rfl (lv_at hl 3 rfl) ?_
          refine lv_bipush (v := 64) hx hb dX5_look_56 (by decide) ?_
          refine lv_idiv hx hb dX5_look_58 (by decide) ?_
          refine wi_allM (rn_V (rest := []) (ci := 3) hx hb hml hown hT hl.1 hC hS hP hD 0 rfl rfl rfl ck_X5_90 (c_X5_looksOf l G cs ts a H.size M6 L7 z1 (y3 / 64) _ h) ⟨rfl, rfl, (Nat.le_of_ble_eq_true rfl), (Nat.le_of_ble_eq_true rfl)⟩ ⟨Nat.le_refl _, Nat.le_refl _⟩ rfl rfl (Nat.le_of_ble_eq_true rfl) dX5_look_59) hD hS hA (fun r8 M9 L10 H locs hP hD hS h => ?_)
          refine lv_istore (lv' := [(4, .int r8), (0, .ref (a 99)), (1, .int z1), (2, .int y2), (3, .int y3)]) hx hb dX5_look_62 hl (by decide) rfl (fun ls hl => ?_)
          refine lv_iinc (v := y2 + 1) (lv' := [(2, .int (y2 + 1)), (4, .int r8), (0, .ref (a 99)), (1, .int z1), (3, .int y3)]) hx hb dX5_look_64 hl (k := 3) rfl rfl (by decide) rfl (fun ls hl => ?_)
          refine lv_iconst (v := 0) hx hb dX5_look_67 (by decide) ?_
          refine lv_istore (lv' := [(5, .int 0), (2, .int (y2 + 1)), (4, .int r8), (0, .ref (a 99)), (1, .int z1), (3, .int y3)]) hx hb dX5_look_68 hl (by decide) rfl (fun ls hl => ?_)
          obtain ⟨n16, h⟩ := h
          refine HL70 _ _ _ _ _ _ (fun M14 v15 h H locs hP hD hS ls hl => ?_) n16 _ _ h _ _ hP hD hS ls (lv_sub hl [3, 4, 1, 5, 2, 0] rfl)
          refine lv_iinc (v := y3 + 1) (lv' := [(3, .int (y3 + 1)), (0, .ref (a 99)), (1, .int z1), (2, .int (y2 + 1)), (4, .int r8), (5, .int v15)]) hx hb dX5_look_119 hl (k := 3) rfl rfl (by decide) rfl (fun ls hl => ?_)
          refine lv_goto (tgt := 37) hx hb dX5_look_122 (by decide) ?_
          exact ih _ _ _ _ h _ _ hP hD hS ls (lv_sub hl [1, 2, 3, 0] rfl)
  have HL134 : ∀ (Mf : ZI) (Lf : ZL) (z1 : Int32) (z2 : Int32) (K : Int32 → Int32 → Int32 → Prop), (∀  (y3 : Int32) (y4 : Int32) (y5 : Int32), K y3 y4 y5 → ∀ (H : Heap) (locs : List Loc), va_P G vwCl (mdW a cs Mf Lf) H → va_D A (mdW a cs Mf Lf) → va_S A s.heap H locs → ∀ ls : Array Slot, lv_has ls 7 [(0, .ref (a 99)), (1, .int z1), (2, .int z2), (3, .int y3), (4, .int y4), (5, .int y5)] → W p l e rm_X5_look s m args below meth c H locs 0 0 (MQ below (va_Qi (fun (r : Int32) (u : ZI × ZL) => post r u.1 u.2) (CB G A (fun u => (mdW a cs u.1 u.2))) A) args s 0 0 A) (F0 m 203 ls [])) → ∀ (n : Nat)  (y3 : Int32) (y4 : Int32) (y5 : Int32), itF (w_X5_look_L134 Mf Lf z1 z2 post K) (fun _ _ _ => False) n y3 y4 y5 → ∀ (H : Heap) (locs : List Loc), va_P G vwCl (mdW a cs Mf Lf) H → va_D A (mdW a cs Mf Lf) → va_S A s.heap H locs → ∀ ls : Array Slot, lv_has ls 7 [(0, .ref (a 99)), (1, .int z1), (2, .int z2), (3, .int y3), (4, .int y4), (5, .int y5)] → W p l e rm_X5_look s m args below meth c H locs 0 0 (MQ below (va_Qi (fun (r : Int32) (u : ZI × ZL) => post r u.1 u.2) (CB G A (fun u => (mdW a cs u.1 u.2))) A) args s 0 0 A) (F0 m 134 ls []) := by
    intro Mf Lf z1 z2 K hKK n
    induction n with
    | zero =>
      intro y3 y4 y5 h
      exact absurd h id
    | succ n ih =>
      intro y3 y4 y5 h H locs hP hD hS ls hl
      have h : w_X5_look_L134 Mf Lf z1 z2 post K (itF (w_X5_look_L134 Mf Lf z1 z2 post K) (fun _ _ _ => False) n) y3 y4 y5 := h
      generalize itF (w_X5_look_L134 Mf Lf z1 z2 post K) (fun _ _ _ => False) n = rec at h ih
      unfold w_X5_look_L134 at h
      refine lv_iload hx hb dX5_look_134 (lv_at hl 5 rfl) ?_
      refine lv_if_lt (tgt := 203) hx hb dX5_look_136 (by decide) (fun ct => ?_) (fun ct => ?_)
      · have h := h.1 ct
        exact hKK _ _ _ h _ _ hP hD hS ls (lv_sub hl [0, 1, 2, 3, 4, 5] rfl)
      · have h := h.2 ct
        refine lv_aload_n hx hb dX5_look_139 rfl (lv_at hl 0 rfl) ?_
        refine gf_X5_35 hx hb hT hown hK hP 0 rfl rfl dX5_look_140 ?_
        refine lv_iload hx hb dX5_look_143 (lv_at hl 5 rfl) ?_
        obtain ⟨hi, h⟩ := h
        refine va_iald hx hb hK hP 8 0 rfl rfl hi dX5_look_145 ?_
        refine lv_iload_n hx hb dX5_look_146 rfl (lv_at hl 2 rfl) ?_
        refine lv_aload_n hx hb dX5_look_147 rfl (lv_at hl 0 rfl) ?_
        refine gf_X5_35 hx hb hT hown hK hP 0 rfl rfl dX5_look_148 ?_
        refine lv_iload hx hb dX5_look_151 (lv_at hl 5 rfl) ?_
        obtain ⟨hi, h⟩ := h
        refine va_iald hx hb hK hP 8 0 rfl rfl hi dX5_look_153 ?_
        refine lv_isub hx hb dX5_look_154 ?_
        refine lv_icmp_le (tgt := 168) hx hb dX5_look_155 (by decide) (fun ct => ?_) (fun ct => ?_)
        · have h := h.1 ct
          refine lv_iload_n hx hb dX5_look_168 rfl (lv_at hl 2 rfl) ?_
          refine lv_aload_n hx hb dX5_look_169 rfl (lv_at hl 0 rfl) ?_
          refine gf_X5_35 hx hb hT hown hK hP 0 rfl rfl dX5_look_170 ?_
          refine lv_iload hx hb dX5_look_173 (lv_at hl 5 rfl) ?_
          obtain ⟨hi, h⟩ := h
          refine va_iald hx hb hK hP 8 0 rfl rfl hi dX5_look_175 ?_
          refine lv_isub hx hb dX5_look_176 ?_
          refine lv_topi (fun v21 ev21 => ?_)
          have h := h v21 ev21
          refine lv_istore (lv' := [(6, .int v21), (0, .ref (a 99)), (1, .int z1), (2, .int z2), (3, .int y3), (4, .int y4), (5, .int y5)]) hx hb dX5_look_177 hl (by decide) rfl (fun ls hl => ?_)
          refine lv_iload hx hb dX5_look_179 (lv_at hl 0 rfl) ?_
          refine lv_iload hx hb dX5_look_181 (lv_at hl 5 rfl) ?_
          refine lv_icmp_gt (tgt := 197) hx hb dX5_look_183 (by decide) (fun ct => ?_) (fun ct => ?_)
          · have h := h.1 ct
            refine lv_iinc (v := y5 + (-1)) (lv' := [(5, .int (y5 + (-1))), (6, .int v21), (0, .ref (a 99)), (1, .int z1), (2, .int z2), (3, .int y3), (4, .int y4)]) hx hb dX5_look_197 hl (k := 6) rfl rfl (by decide) rfl (fun ls hl => ?_)
            refine lv_goto (tgt := 134) hx hb dX5_look_200 (by decide) ?_
            exact ih _ _ _ h _ _ hP hD hS ls (lv_sub hl [2, 3, 4, 5, 6, 0] rfl)
          · have h := h.2 ct
            refine lv_iload_n hx hb dX5_look_186 rfl (lv_at hl 3 rfl) ?_
            refine lv_if_le (tgt := 197) hx hb dX5_look_187 (by decide) (fun ct => ?_) (fun ct => ?_)
            · have h := h.1 ct
              refine lv_iinc (v := y5 + (-1)) (lv' := [(5, .int (y5 + (-1))), (6, .int v21), (0, .ref (a 99)), (1, .int z1), (2, .int z2), (3, .int y3), (4, .int y4)]) hx hb dX5_look_197 hl (k := 6) rfl rfl (by decide) rfl (fun ls hl => ?_)
              refine lv_goto (tgt := 134) hx hb dX5_look_200 (by decide) ?_
              exact ih _ _ _ h _ _ hP hD hS ls (lv_sub hl [2, 3, 4, 5, 6, 0] rfl)
            · have h := h.2 ct
              refine lv_iload hx hb dX5_look_190 (lv_at hl 6 rfl) ?_
              refine lv_istore_n (lv' := [(3, .int y5), (6, .int v21), (0, .ref (a 99)), (1, .int z1), (2, .int z2), (4, .int y4), (5, .int y5)]) hx hb dX5_look_192 rfl hl (by decide) rfl (fun ls hl => ?_)
              refine lv_iload hx hb dX5_look_193 (lv_at hl 1 rfl) ?_
              refine lv_istore (lv' := [(4, .int v21), (3, .int y5), (6, .int v21), (0, .ref (a 99)), (1, .int z1), (2, .int z2), (5, .int y5)]) hx hb dX5_look_195 hl (by decide) rfl (fun ls hl => ?_)
              refine lv_iinc (v := y5 + (-1)) (lv' := [(5, .int (y5 + (-1))), (4, .int v21), (3, .int y5), (6, .int v21), (0, .ref (a 99)), (1, .int z1), (2, .int z2)]) hx hb dX5_look_197 hl (k := 6) rfl rfl (by decide) rfl (fun ls hl => ?_)
              refine lv_goto (tgt := 134) hx hb dX5_look_200 (by decide) ?_
              exact ih _ _ _ h _ _ hP hD hS ls (lv_sub hl [4, 5, 6, 2, 1, 0] rfl)
        · have h := h.2 ct
          refine lv_aload_n hx hb dX5_look_158 rfl (lv_at hl 0 rfl) ?_
          refine gf_X5_35 hx hb hT hown hK hP 0 rfl rfl dX5_look_159 ?_
          refine lv_iload hx hb dX5_look_162 (lv_at hl 5 rfl) ?_
          obtain ⟨hi, h⟩ := h
          refine va_iald hx hb hK hP 8 0 rfl rfl hi dX5_look_164 ?_
          refine lv_goto (tgt := 177) hx hb dX5_look_165 (by decide) ?_
          refine lv_topi (fun v22 ev22 => ?_)
          have h := h v22 ev22
          refine lv_istore (lv' := [(6, .int v22), (0, .ref (a 99)), (1, .int z1), (2, .int z2), (3, .int y3), (4, .int y4), (5, .int y5)]) hx hb dX5_look_177 hl (by decide) rfl (fun ls hl => ?_)
          refine lv_iload hx hb dX5_look_179 (lv_at hl 0 rfl) ?_
          refine lv_iload hx hb dX5_look_181 (lv_at hl 5 rfl) ?_
          refine lv_icmp_gt (tgt := 197) hx hb dX5_look_183 (by decide) (fun ct => ?_) (fun ct => ?_)
          · have h := h.1 ct
            refine lv_iinc (v := y5 + (-1)) (lv' := [(5, .int (y5 + (-1))), (6, .int v22), (0, .ref (a 99)), (1, .int z1), (2, .int z2), (3, .int y3), (4, .int y4)]) hx hb dX5_look_197 hl (k := 6) rfl rfl (by decide) rfl (fun ls hl => ?_)
            refine lv_goto (tgt := 134) hx hb dX5_look_200 (by decide) ?_
            exact ih _ _ _ h _ _ hP hD hS ls (lv_sub hl [2, 3, 4, 5, 6, 0] rfl)
          · have h := h.2 ct
            refine lv_iload_n hx hb dX5_look_186 rfl (lv_at hl 3 rfl) ?_
            refine lv_if_le (tgt := 197) hx hb dX5_look_187 (by decide) (fun ct => ?_) (fun ct => ?_)
            · have h := h.1 ct
              refine lv_iinc (v := y5 + (-1)) (lv' := [(5, .int (y5 + (-1))), (6, .int v22), (0, .ref (a 99)), (1, .int z1), (2, .int z2), (3, .int y3), (4, .int y4)]) hx hb dX5_look_197 hl (k := 6) rfl rfl (by decide) rfl (fun ls hl => ?_)
              refine lv_goto (tgt := 134) hx hb dX5_look_200 (by decide) ?_
              exact ih _ _ _ h _ _ hP hD hS ls (lv_sub hl [2, 3, 4, 5, 6, 0] rfl)
            · have h := h.2 ct
              refine lv_iload hx hb dX5_look_190 (lv_at hl 6 rfl) ?_
              refine lv_istore_n (lv' := [(3, .int y5), (6, .int v22), (0, .ref (a 99)), (1, .int z1), (2, .int z2), (4, .int y4), (5, .int y5)]) hx hb dX5_look_192 rfl hl (by decide) rfl (fun ls hl => ?_)
              refine lv_iload hx hb dX5_look_193 (lv_at hl 1 rfl) ?_
              refine lv_istore (lv' := [(4, .int v22), (3, .int y5), (6, .int v22), (0, .ref (a 99)), (1, .int z1), (2, .int z2), (5, .int y5)]) hx hb dX5_look_195 hl (by decide) rfl (fun ls hl => ?_)
              refine lv_iinc (v := y5 + (-1)) (lv' := [(5, .int (y5 + (-1))), (4, .int v22), (3, .int y5), (6, .int v22), (0, .ref (a 99)), (1, .int z1), (2, .int z2)]) hx hb dX5_look_197 hl (k := 6) rfl rfl (by decide) rfl (fun ls hl => ?_)
              refine lv_goto (tgt := 134) hx hb dX5_look_200 (by decide) ?_
              exact ih _ _ _ h _ _ hP hD hS ls (lv_sub hl [4, 5, 6, 2, 1, 0] rfl)
  refine lv_iload_n hx hb dX5_look_0 rfl (lv_at hl 1 rfl) ?_
  refine cl_Si (rn_S (rest := []) hx hb hml hown hT hl.1 ck_X5_62 (c_X5_isWhat l x1 _ h) ⟨rfl, rfl, (Nat.le_of_ble_eq_true rfl), (Nat.le_of_ble_eq_true rfl)⟩ ⟨Nat.zero_le _, Nat.zero_le _⟩ rfl rfl (Nat.le_of_ble_eq_true rfl) dX5_look_1) (fun r1 h => ?_)
  refine lv_if_ne (tgt := 12) hx hb dX5_look_4 (by decide) (fun ct => ?_) (fun ct => ?_)
  · have h := h.1 ct
    refine lv_iconst (v := 0) hx hb dX5_look_12 (by decide) ?_
    refine lv_istore_n (lv' := [(2, .int 0), (0, .ref (a 99)), (1, .int x1)]) hx hb dX5_look_13 rfl hl (by decide) rfl (fun ls hl => ?_)
    obtain ⟨n28, h⟩ := h
    refine HL14 _ _ _ (fun M3 v4 h H locs hP hD hS ls hl => ?_) n28 _ _ h _ _ hP hD hS ls (lv_sub hl [1, 2, 0] rfl)
    refine lv_iconst (v := 0) hx hb dX5_look_33 (by decide) ?_
    refine lv_istore_n (lv' := [(2, .int 0), (0, .ref (a 99)), (1, .int x1)]) hx hb dX5_look_34 rfl hl (by decide) rfl (fun ls hl => ?_)
    refine lv_iconst (v := 0) hx hb dX5_look_35 (by decide) ?_
    refine lv_istore_n (lv' := [(3, .int 0), (2, .int 0), (0, .ref (a 99)), (1, .int x1)]) hx hb dX5_look_36 rfl hl (by decide) rfl (fun ls hl => ?_)
    obtain ⟨n27, h⟩ := h
    refine HL37 _ _ (fun M17 L18 v19 v20 h H locs hP hD hS ls hl => ?_) n27 _ _ _ _ h _ _ hP hD hS ls (lv_sub hl [2, 3, 1, 0] rfl)
    refine lv_iconst (v := (-1)) hx hb dX5_look_125 (by decide) ?_
    refine lv_istore_n (lv' := [(3, .int (-1)), (0, .ref (a 99)), (1, .int x1), (2, .int v19)]) hx hb dX5_look_126 rfl hl (by decide) rfl (fun ls hl => ?_)
    refine lv_iload_n hx hb dX5_look_127 rfl (lv_at hl 3 rfl) ?_
    refine lv_istore (lv' := [(4, .int v19), (3, .int (-1)), (0, .ref (a 99)), (1, .int x1), (2, .int v19)]) hx hb dX5_look_128 hl (by decide) rfl (fun ls hl => ?_)
    refine lv_bipush (v := 63) hx hb dX5_look_130 (by decide) ?_
    refine lv_istore (lv' := [(5, .int 63), (4, .int v19), (3, .int (-1)), (0, .ref (a 99)), (1, .int x1), (2, .int v19)]) hx hb dX5_look_132 hl (by decide) rfl (fun ls hl => ?_)
    obtain ⟨n26, h⟩ := h
    refine HL134 _ _ _ _ _ (fun v23 v24 v25 h H locs hP hD hS ls hl => ?_) n26 _ _ _ h _ _ hP hD hS ls (lv_sub hl [3, 4, 5, 2, 1, 0] rfl)
    refine lv_iload_n hx hb dX5_look_203 rfl (lv_at hl 3 rfl) ?_
    exact rt_Wi hx hb hr hlk dX5_look_204 (M17, L18) hP hD hS h
  · have h := h.2 ct
    refine lv_aload_n hx hb dX5_look_7 rfl (lv_at hl 0 rfl) ?_
    refine wi_allM (rn_V (rest := []) (ci := 3) hx hb hml hown hT hl.1 hC hS hP hD 0 rfl rfl rfl ck_X5_110 (c_X5_bad l G cs ts a H.size M L  _ h) ⟨rfl, rfl, (Nat.le_of_ble_eq_true rfl), (Nat.le_of_ble_eq_true rfl)⟩ ⟨Nat.le_refl _, Nat.le_refl _⟩ rfl rfl (Nat.le_of_ble_eq_true rfl) dX5_look_8) hD hS hA (fun r29 M30 L31 H locs hP hD hS h => ?_)
    exact rt_Wi hx hb hr hlk dX5_look_11 (M30, L31) hP hD hS h
abbrev rm_X5_bitten : Room := { frames := 2, cells := 0, slots := 0, locals := 50 }
set_option maxRecDepth 100000 in
set_option maxHeartbeats 4000000 in
theorem c_X5_bitten (l : Launch) (G : va_G) (cs ts : Nat → Nat) (a : Nat → Nat) (sz : Nat)  (M : ZI) (L : ZL)   (x1 : Int32) (x2 : Int32) (x3 : Int32) (x4 : Int32) (x5 : Int32) (post : Int32 → ZI → ZL → Prop) (h : w_X5_bitten M L x1 x2 x3 x4 x5 post) : Met l yX5_bitten [.code yX5_bitten cX5_bitten 12 (some .int)] rm_X5_bitten (va_Pc [.ref (a 99), .int x1, .int x2, .int x3, .int x4, .int x5] (CP G cs ts (mdW a cs M L) sz)) (va_Qi (fun (r : Int32) (u : ZI × ZL) => post r u.1 u.2) (CB G (va_A (mdW a cs M L) sz) (fun u => (mdW a cs u.1 u.2))) (va_A (mdW a cs M L) sz)) 0 0 (va_A (mdW a cs M L) sz) := by
  refine ax_W (Qc := fun A => va_Qi (fun (r : Int32) (u : ZI × ZL) => post r u.1 u.2) (CB G A (fun u => (mdW a cs u.1 u.2))) A) (by decide) (Nat.le_of_ble_eq_true rfl) sz ?_
  intro p e s m args below meth c A hx hb hr hlk hml hown hT hC hnm H locs hP hD hS ls hl
  have hK := hC.2.1
  have hA := hC.2.2
  have hl : lv_has ls 12 [(0, .ref (a 99)), (1, .int x1), (2, .int x2), (3, .int x3), (4, .int x4), (5, .int x5)] := hl
  unfold w_X5_bitten at h
  have HL59 : ∀ (Mf : ZI) (Lf : ZL) (z1 : Int32) (z2 : Int32) (z3 : Int32) (z4 : Int32) (z5 : Int32) (z6 : Int32) (K : Int32 → Int32 → Int32 → Prop), (∀  (y7 : Int32) (y8 : Int32) (y9 : Int32), K y7 y8 y9 → ∀ (H : Heap) (locs : List Loc), va_P G vwCl (mdW a cs Mf Lf) H → va_D A (mdW a cs Mf Lf) → va_S A s.heap H locs → ∀ ls : Array Slot, lv_has ls 12 [(0, .ref (a 99)), (1, .int z1), (2, .int z2), (3, .int z3), (4, .int z4), (5, .int z5), (6, .int z6), (7, .int y7), (8, .int y8), (9, .int y9)] → W p l e rm_X5_bitten s m args below meth c H locs 0 0 (MQ below (va_Qi (fun (r : Int32) (u : ZI × ZL) => post r u.1 u.2) (CB G A (fun u => (mdW a cs u.1 u.2))) A) args s 0 0 A) (F0 m 167 ls [])) → ∀ (n : Nat)  (y7 : Int32) (y8 : Int32) (y9 : Int32), itF (w_X5_bitten_L59 Mf Lf z1 z2 z3 z4 z5 z6 post K) (fun _ _ _ => False) n y7 y8 y9 → ∀ (H : Heap) (locs : List Loc), va_P G vwCl (mdW a cs Mf Lf) H → va_D A (mdW a cs Mf Lf) → va_S A s.heap H locs → ∀ ls : Array Slot, lv_has ls 12 [(0, .ref (a 99)), (1, .int z1), (2, .int z2), (3, .int z3), (4, .int z4), (5, .int z5), (6, .int z6), (7, .int y7), (8, .int y8), (9, .int y9)] → W p l e rm_X5_bitten s m args below meth c H locs 0 0 (MQ below (va_Qi (fun (r : Int32) (u : ZI × ZL) => post r u.1 u.2) (CB G A (fun u => (mdW a cs u.1 u.2))) A) args s 0 0 A) (F0 m 59 ls []) := by
    intro Mf Lf z1 z2 z3 z4 z5 z6 K hKK n
    induction n with
    | zero =>
      intro y7 y8 y9 h
      exact absurd h id
    | succ n ih =>
      intro y7 y8 y9 h H locs hP hD hS ls hl
      have h : w_X5_bitten_L59 Mf Lf z1 z2 z3 z4 z5 z6 post K (itF (w_X5_bitten_L59 Mf Lf z1 z2 z3 z4 z5 z6 post K) (fun _ _ _ => False) n) y7 y8 y9 := h
      generalize itF (w_X5_bitten_L59 Mf Lf z1 z2 z3 z4 z5 z6 post K) (fun _ _ _ => False) n = rec at h ih
      unfold w_X5_bitten_L59 at h
      refine lv_iload hx hb dX5_bitten_59 (lv_at hl 9 rfl) ?_
      refine lv_aload_n hx hb dX5_bitten_61 rfl (lv_at hl 0 rfl) ?_
      refine gf_X5_7 hx hb hT hown hK hP 0 rfl rfl dX5_bitten_62 ?_
      refine lv_bipush (v := 76) hx hb dX5_bitten_65 (by decide) ?_
      have hi : vp_in 76 99 := by unfold vp_in; decide
      refine va_iald hx hb hK hP 1 0 rfl rfl hi dX5_bitten_67 ?_
      refine lv_icmp_ge (tgt := 167) hx hb dX5_bitten_68 (by decide) (fun ct => ?_) (fun ct => ?_)
      · have h := h.1 ct
        exact hKK _ _ _ h _ _ hP hD hS ls (lv_sub hl [0, 1, 2, 3, 4, 5, 6, 7, 8, 9] rfl)
      · have h := h.2 ct
        refine lv_aload_n hx hb dX5_bitten_71 rfl (lv_at hl 0 rfl) ?_
        refine gf_X5_7 hx hb hT hown hK hP 0 rfl rfl dX5_bitten_72 ?_
        refine lv_bipush (v := 77) hx hb dX5_bitten_75 (by decide) ?_
        refine lv_iload hx hb dX5_bitten_77 (lv_at hl 9 rfl) ?_
        refine lv_iadd hx hb dX5_bitten_79 ?_
        obtain ⟨hi, h⟩ := h
        refine va_iald hx hb hK hP 1 0 rfl rfl hi dX5_bitten_80 ?_
        refine lv_iconst (v := 2) hx hb dX5_bitten_81 (by decide) ?_
        refine lv_idiv hx hb dX5_bitten_82 (by decide) ?_
        refine lv_topi (fun v17 ev17 => ?_)
        have h := h v17 ev17
        refine lv_istore (lv' := [(10, .int v17), (0, .ref (a 99)), (1, .int z1), (2, .int z2), (3, .int z3), (4, .int z4), (5, .int z5), (6, .int z6), (7, .int y7), (8, .int y8), (9, .int y9)]) hx hb dX5_bitten_83 hl (by decide) rfl (fun ls hl => ?_)
        refine lv_iload hx hb dX5_bitten_85 (lv_at hl 7 rfl) ?_
        refine lv_iload_n hx hb dX5_bitten_87 rfl (lv_at hl 3 rfl) ?_
        refine lv_iload_n hx hb dX5_bitten_88 rfl (lv_at hl 4 rfl) ?_
        refine lv_iload hx hb dX5_bitten_89 (lv_at hl 0 rfl) ?_
        refine cl_Si (rn_S (rest := []) hx hb hml hown hT hl.1 ck_X5_200 (c_X5_covers l z6 z2 z3 v17 _ h) ⟨rfl, rfl, (Nat.le_of_ble_eq_true rfl), (Nat.le_of_ble_eq_true rfl)⟩ ⟨Nat.zero_le _, Nat.zero_le _⟩ rfl rfl (Nat.le_of_ble_eq_true rfl) dX5_bitten_91) (fun r18 h => ?_)
        refine lv_istore (lv' := [(11, .int r18), (10, .int v17), (0, .ref (a 99)), (1, .int z1), (2, .int z2), (3, .int z3), (4, .int z4), (5, .int z5), (6, .int z6), (7, .int y7), (8, .int y8), (9, .int y9)]) hx hb dX5_bitten_94 hl (by decide) rfl (fun ls hl => ?_)
        refine lv_aload_n hx hb dX5_bitten_96 rfl (lv_at hl 2 rfl) ?_
        refine gf_X5_7 hx hb hT hown hK hP 0 rfl rfl dX5_bitten_97 ?_
        refine lv_bipush (v := 77) hx hb dX5_bitten_100 (by decide) ?_
        refine lv_iload hx hb dX5_bitten_102 (lv_at hl 11 rfl) ?_
        refine lv_iadd hx hb dX5_bitten_104 ?_
        obtain ⟨hi, h⟩ := h
        refine va_iald hx hb hK hP 1 0 rfl rfl hi dX5_bitten_105 ?_
        refine lv_iconst (v := 2) hx hb dX5_bitten_106 (by decide) ?_
        refine lv_irem hx hb dX5_bitten_107 (by decide) ?_
        refine lv_iconst (v := 1) hx hb dX5_bitten_108 (by decide) ?_
        refine lv_icmp_ne (tgt := 132) hx hb dX5_bitten_109 (by decide) (fun ct => ?_) (fun ct => ?_)
        · have h := h.1 ct
          refine lv_iload hx hb dX5_bitten_132 (lv_at hl 0 rfl) ?_
          refine lv_if_eq (tgt := 161) hx hb dX5_bitten_134 (by decide) (fun ct => ?_) (fun ct => ?_)
          · have h := h.1 ct
            refine lv_iinc (v := y9 + 1) (lv' := [(9, .int (y9 + 1)), (11, .int r18), (10, .int v17), (0, .ref (a 99)), (1, .int z1), (2, .int z2), (3, .int z3), (4, .int z4), (5, .int z5), (6, .int z6), (7, .int y7), (8, .int y8)]) hx hb dX5_bitten_161 hl (k := 11) rfl rfl (by decide) rfl (fun ls hl => ?_)
            refine lv_goto (tgt := 59) hx hb dX5_bitten_164 (by decide) ?_
            exact ih _ _ _ h _ _ hP hD hS ls (lv_sub hl [3, 4, 5, 6, 7, 8, 9, 10, 11, 0] rfl)
          · have h := h.2 ct
            refine lv_iload hx hb dX5_bitten_137 (lv_at hl 9 rfl) ?_
            refine lv_iconst (v := 1) hx hb dX5_bitten_139 (by decide) ?_
            refine lv_iconst (v := 4) hx hb dX5_bitten_140 (by decide) ?_
            refine lv_iload hx hb dX5_bitten_141 (lv_at hl 1 rfl) ?_
            refine lv_bipush (v := 8) hx hb dX5_bitten_143 (by decide) ?_
            refine lv_idiv hx hb dX5_bitten_145 (by decide) ?_
            refine lv_iload_n hx hb dX5_bitten_146 rfl (lv_at hl 5 rfl) ?_
            refine lv_isub hx hb dX5_bitten_147 ?_
            refine lv_imul hx hb dX5_bitten_148 ?_
            refine lv_iload hx hb dX5_bitten_149 (lv_at hl 1 rfl) ?_
            refine lv_bipush (v := 8) hx hb dX5_bitten_151 (by decide) ?_
            refine lv_irem hx hb dX5_bitten_153 (by decide) ?_
            refine lv_iadd hx hb dX5_bitten_154 ?_
            refine lv_iload_n hx hb dX5_bitten_155 rfl (lv_at hl 4 rfl) ?_
            refine lv_isub hx hb dX5_bitten_156 ?_
            refine lv_ishl hx hb dX5_bitten_157 ?_
            refine lv_ior hx hb dX5_bitten_158 ?_
            refine lv_topi (fun v19 ev19 => ?_)
            have h := h v19 ev19
            refine lv_istore (lv' := [(7, .int v19), (11, .int r18), (10, .int v17), (0, .ref (a 99)), (1, .int z1), (2, .int z2), (3, .int z3), (4, .int z4), (5, .int z5), (6, .int z6), (8, .int y8), (9, .int y9)]) hx hb dX5_bitten_159 hl (by decide) rfl (fun ls hl => ?_)
            refine lv_iinc (v := y9 + 1) (lv' := [(9, .int (y9 + 1)), (7, .int v19), (11, .int r18), (10, .int v17), (0, .ref (a 99)), (1, .int z1), (2, .int z2), (3, .int z3), (4, .int z4), (5, .int z5), (6, .int z6), (8, .int y8)]) hx hb dX5_bitten_161 hl (k := 11) rfl rfl (by decide) rfl (fun ls hl => ?_)
            refine lv_goto (tgt := 59) hx hb dX5_bitten_164 (by decide) ?_
            exact ih _ _ _ h _ _ hP hD hS ls (lv_sub hl [4, 5, 6, 7, 8, 9, 10, 1, 11, 0] rfl)
        · have h := h.2 ct
          refine lv_iload hx hb dX5_bitten_112 (lv_at hl 10 rfl) ?_
          refine lv_if_eq (tgt := 126) hx hb dX5_bitten_114 (by decide) (fun ct => ?_) (fun ct => ?_)
          · have h := h.1 ct
            refine lv_iconst (v := 0) hx hb dX5_bitten_126 (by decide) ?_
            refine lv_istore (lv' := [(8, .int 0), (11, .int r18), (10, .int v17), (0, .ref (a 99)), (1, .int z1), (2, .int z2), (3, .int z3), (4, .int z4), (5, .int z5), (6, .int z6), (7, .int y7), (9, .int y9)]) hx hb dX5_bitten_127 hl (by decide) rfl (fun ls hl => ?_)
            refine lv_goto (tgt := 161) hx hb dX5_bitten_129 (by decide) ?_
            refine lv_iinc (v := y9 + 1) (lv' := [(9, .int (y9 + 1)), (8, .int 0), (11, .int r18), (10, .int v17), (0, .ref (a 99)), (1, .int z1), (2, .int z2), (3, .int z3), (4, .int z4), (5, .int z5), (6, .int z6), (7, .int y7)]) hx hb dX5_bitten_161 hl (k := 11) rfl rfl (by decide) rfl (fun ls hl => ?_)
            refine lv_goto (tgt := 59) hx hb dX5_bitten_164 (by decide) ?_
            exact ih _ _ _ h _ _ hP hD hS ls (lv_sub hl [4, 5, 6, 7, 8, 9, 10, 11, 1, 0] rfl)
          · have h := h.2 ct
            refine lv_iload hx hb dX5_bitten_117 (lv_at hl 0 rfl) ?_
            refine lv_if_eq (tgt := 126) hx hb dX5_bitten_119 (by decide) (fun ct => ?_) (fun ct => ?_)
            · have h := h.1 ct
              refine lv_iconst (v := 0) hx hb dX5_bitten_126 (by decide) ?_
              refine lv_istore (lv' := [(8, .int 0), (11, .int r18), (10, .int v17), (0, .ref (a 99)), (1, .int z1), (2, .int z2), (3, .int z3), (4, .int z4), (5, .int z5), (6, .int z6), (7, .int y7), (9, .int y9)]) hx hb dX5_bitten_127 hl (by decide) rfl (fun ls hl => ?_)
              refine lv_goto (tgt := 161) hx hb dX5_bitten_129 (by decide) ?_
              refine lv_iinc (v := y9 + 1) (lv' := [(9, .int (y9 + 1)), (8, .int 0), (11, .int r18), (10, .int v17), (0, .ref (a 99)), (1, .int z1), (2, .int z2), (3, .int z3), (4, .int z4), (5, .int z5), (6, .int z6), (7, .int y7)]) hx hb dX5_bitten_161 hl (k := 11) rfl rfl (by decide) rfl (fun ls hl => ?_)
              refine lv_goto (tgt := 59) hx hb dX5_bitten_164 (by decide) ?_
              exact ih _ _ _ h _ _ hP hD hS ls (lv_sub hl [4, 5, 6, 7, 8, 9, 10, 11, 1, 0] rfl)
            · have h := h.2 ct
              refine lv_iconst (v := 1) hx hb dX5_bitten_122 (by decide) ?_
              refine lv_goto (tgt := 127) hx hb dX5_bitten_123 (by decide) ?_
              refine lv_istore (lv' := [(8, .int 1), (11, .int r18), (10, .int v17), (0, .ref (a 99)), (1, .int z1), (2, .int z2), (3, .int z3), (4, .int z4), (5, .int z5), (6, .int z6), (7, .int y7), (9, .int y9)]) hx hb dX5_bitten_127 hl (by decide) rfl (fun ls hl => ?_)
              refine lv_goto (tgt := 161) hx hb dX5_bitten_129 (by decide) ?_
              refine lv_iinc (v := y9 + 1) (lv' := [(9, .int (y9 + 1)), (8, .int 1), (11, .int r18), (10, .int v17), (0, .ref (a 99)), (1, .int z1), (2, .int z2), (3, .int z3), (4, .int z4), (5, .int z5), (6, .int z6), (7, .int y7)]) hx hb dX5_bitten_161 hl (k := 11) rfl rfl (by decide) rfl (fun ls hl => ?_)
              refine lv_goto (tgt := 59) hx hb dX5_bitten_164 (by decide) ?_
              exact ih _ _ _ h _ _ hP hD hS ls (lv_sub hl [4, 5, 6, 7, 8, 9, 10, 11, 1, 0] rfl)
  have HL190 : ∀ (Mf : ZI) (Lf : ZL) (z1 : Int32) (z2 : Int32) (z3 : Int32) (z4 : Int32) (z5 : Int32) (z6 : Int32) (z7 : Int32) (z8 : Int32) (K : Int32 → Int32 → Prop), (∀  (y9 : Int32) (y10 : Int32), K y9 y10 → ∀ (H : Heap) (locs : List Loc), va_P G vwCl (mdW a cs Mf Lf) H → va_D A (mdW a cs Mf Lf) → va_S A s.heap H locs → ∀ ls : Array Slot, lv_has ls 12 [(0, .ref (a 99)), (1, .int z1), (2, .int z2), (3, .int z3), (4, .int z4), (5, .int z5), (6, .int z6), (7, .int z7), (8, .int z8), (9, .int y9), (10, .int y10)] → W p l e rm_X5_bitten s m args below meth c H locs 0 0 (MQ below (va_Qi (fun (r : Int32) (u : ZI × ZL) => post r u.1 u.2) (CB G A (fun u => (mdW a cs u.1 u.2))) A) args s 0 0 A) (F0 m 231 ls [])) → ∀ (n : Nat)  (y9 : Int32) (y10 : Int32), itF (w_X5_bitten_L190 Mf Lf z1 z2 z3 z4 z5 z6 z7 z8 post K) (fun _ _ => False) n y9 y10 → ∀ (H : Heap) (locs : List Loc), va_P G vwCl (mdW a cs Mf Lf) H → va_D A (mdW a cs Mf Lf) → va_S A s.heap H locs → ∀ ls : Array Slot, lv_has ls 12 [(0, .ref (a 99)), (1, .int z1), (2, .int z2), (3, .int z3), (4, .int z4), (5, .int z5), (6, .int z6), (7, .int z7), (8, .int z8), (9, .int y9), (10, .int y10)] → W p l e rm_X5_bitten s m args below meth c H locs 0 0 (MQ below (va_Qi (fun (r : Int32) (u : ZI × ZL) => post r u.1 u.2) (CB G A (fun u => (mdW a cs u.1 u.2))) A) args s 0 0 A) (F0 m 190 ls []) := by
    intro Mf Lf z1 z2 z3 z4 z5 z6 z7 z8 K hKK n
    induction n with
    | zero =>
      intro y9 y10 h
      exact absurd h id
    | succ n ih =>
      intro y9 y10 h H locs hP hD hS ls hl
      have h : w_X5_bitten_L190 Mf Lf z1 z2 z3 z4 z5 z6 z7 z8 post K (itF (w_X5_bitten_L190 Mf Lf z1 z2 z3 z4 z5 z6 z7 z8 post K) (fun _ _ => False) n) y9 y10 := h
      generalize itF (w_X5_bitten_L190 Mf Lf z1 z2 z3 z4 z5 z6 z7 z8 post K) (fun _ _ => False) n = rec at h ih
      unfold w_X5_bitten_L190 at h
      refine lv_iload hx hb dX5_bitten_190 (lv_at hl 10 rfl) ?_
      refine lv_bipush (v := 16) hx hb dX5_bitten_192 (by decide) ?_
      refine lv_icmp_ge (tgt := 231) hx hb dX5_bitten_194 (by decide) (fun ct => ?_) (fun ct => ?_)
      · have h := h.1 ct
        exact hKK _ _ h _ _ hP hD hS ls (lv_sub hl [0, 1, 2, 3, 4, 5, 6, 7, 8, 9, 10] rfl)
      · have h := h.2 ct
        refine lv_iload hx hb dX5_bitten_197 (lv_at hl 9 rfl) ?_
        refine lv_iload hx hb dX5_bitten_199 (lv_at hl 7 rfl) ?_
        refine lv_iload hx hb dX5_bitten_201 (lv_at hl 10 rfl) ?_
        refine lv_iload hx hb dX5_bitten_203 (lv_at hl 4 rfl) ?_
        refine cl_Si (rn_S (rest := [.int z7, .int y9]) hx hb hml hown hT hl.1 ck_X5_75 (c_X5_lands l y10 z4 _ h) ⟨rfl, rfl, (Nat.le_of_ble_eq_true rfl), (Nat.le_of_ble_eq_true rfl)⟩ ⟨Nat.zero_le _, Nat.zero_le _⟩ rfl rfl (Nat.le_of_ble_eq_true rfl) dX5_bitten_205) (fun r23 h => ?_)
        refine cl_Si (rn_S (rest := [.int y9]) hx hb hml hown hT hl.1 ck_X5_72 (c_X5_has l z7 r23 _ h) ⟨rfl, rfl, (Nat.le_of_ble_eq_true rfl), (Nat.le_of_ble_eq_true rfl)⟩ ⟨Nat.zero_le _, Nat.zero_le _⟩ rfl rfl (Nat.le_of_ble_eq_true rfl) dX5_bitten_208) (fun r24 h => ?_)
        refine lv_if_eq (tgt := 221) hx hb dX5_bitten_211 (by decide) (fun ct => ?_) (fun ct => ?_)
        · have h := h.1 ct
          refine lv_iconst (v := 0) hx hb dX5_bitten_221 (by decide) ?_
          refine lv_ior hx hb dX5_bitten_222 ?_
          refine lv_topi (fun v25 ev25 => ?_)
          have h := h v25 ev25
          refine lv_istore (lv' := [(9, .int v25), (0, .ref (a 99)), (1, .int z1), (2, .int z2), (3, .int z3), (4, .int z4), (5, .int z5), (6, .int z6), (7, .int z7), (8, .int z8), (10, .int y10)]) hx hb dX5_bitten_223 hl (by decide) rfl (fun ls hl => ?_)
          refine lv_iinc (v := y10 + 1) (lv' := [(10, .int (y10 + 1)), (9, .int v25), (0, .ref (a 99)), (1, .int z1), (2, .int z2), (3, .int z3), (4, .int z4), (5, .int z5), (6, .int z6), (7, .int z7), (8, .int z8)]) hx hb dX5_bitten_225 hl (k := 10) rfl rfl (by decide) rfl (fun ls hl => ?_)
          refine lv_goto (tgt := 190) hx hb dX5_bitten_228 (by decide) ?_
          exact ih _ _ h _ _ hP hD hS ls (lv_sub hl [2, 3, 4, 5, 6, 7, 8, 9, 10, 1, 0] rfl)
        · have h := h.2 ct
          refine lv_iconst (v := 1) hx hb dX5_bitten_214 (by decide) ?_
          refine lv_iload hx hb dX5_bitten_215 (lv_at hl 10 rfl) ?_
          refine lv_ishl hx hb dX5_bitten_217 ?_
          refine lv_goto (tgt := 222) hx hb dX5_bitten_218 (by decide) ?_
          refine lv_ior hx hb dX5_bitten_222 ?_
          refine lv_topi (fun v26 ev26 => ?_)
          have h := h v26 ev26
          refine lv_istore (lv' := [(9, .int v26), (0, .ref (a 99)), (1, .int z1), (2, .int z2), (3, .int z3), (4, .int z4), (5, .int z5), (6, .int z6), (7, .int z7), (8, .int z8), (10, .int y10)]) hx hb dX5_bitten_223 hl (by decide) rfl (fun ls hl => ?_)
          refine lv_iinc (v := y10 + 1) (lv' := [(10, .int (y10 + 1)), (9, .int v26), (0, .ref (a 99)), (1, .int z1), (2, .int z2), (3, .int z3), (4, .int z4), (5, .int z5), (6, .int z6), (7, .int z7), (8, .int z8)]) hx hb dX5_bitten_225 hl (k := 10) rfl rfl (by decide) rfl (fun ls hl => ?_)
          refine lv_goto (tgt := 190) hx hb dX5_bitten_228 (by decide) ?_
          exact ih _ _ h _ _ hP hD hS ls (lv_sub hl [2, 3, 4, 5, 6, 7, 8, 9, 10, 1, 0] rfl)
  refine lv_iload_n hx hb dX5_bitten_0 rfl (lv_at hl 1 rfl) ?_
  refine cl_Si (rn_S (rest := []) hx hb hml hown hT hl.1 ck_X5_62 (c_X5_isWhat l x1 _ h) ⟨rfl, rfl, (Nat.le_of_ble_eq_true rfl), (Nat.le_of_ble_eq_true rfl)⟩ ⟨Nat.zero_le _, Nat.zero_le _⟩ rfl rfl (Nat.le_of_ble_eq_true rfl) dX5_bitten_1) (fun r1 h => ?_)
  refine lv_if_eq (tgt := 36) hx hb dX5_bitten_4 (by decide) (fun ct => ?_) (fun ct => ?_)
  · have h := h.1 ct
    refine lv_aload_n hx hb dX5_bitten_36 rfl (lv_at hl 0 rfl) ?_
    refine wi_allM (rn_V (rest := []) (ci := 3) hx hb hml hown hT hl.1 hC hS hP hD 0 rfl rfl rfl ck_X5_110 (c_X5_bad l G cs ts a H.size M L  _ h) ⟨rfl, rfl, (Nat.le_of_ble_eq_true rfl), (Nat.le_of_ble_eq_true rfl)⟩ ⟨Nat.le_refl _, Nat.le_refl _⟩ rfl rfl (Nat.le_of_ble_eq_true rfl) dX5_bitten_37) hD hS hA (fun r2 M3 L4 H locs hP hD hS h => ?_)
    exact rt_Wi hx hb hr hlk dX5_bitten_40 (M3, L4) hP hD hS h
  · have h := h.2 ct
    refine lv_iload_n hx hb dX5_bitten_7 rfl (lv_at hl 2 rfl) ?_
    refine lv_iload_n hx hb dX5_bitten_8 rfl (lv_at hl 3 rfl) ?_
    refine cl_Si (rn_S (rest := []) hx hb hml hown hT hl.1 ck_X5_66 (c_X5_isPlace l x2 x3 _ h) ⟨rfl, rfl, (Nat.le_of_ble_eq_true rfl), (Nat.le_of_ble_eq_true rfl)⟩ ⟨Nat.zero_le _, Nat.zero_le _⟩ rfl rfl (Nat.le_of_ble_eq_true rfl) dX5_bitten_9) (fun r5 h => ?_)
    refine lv_if_eq (tgt := 36) hx hb dX5_bitten_12 (by decide) (fun ct => ?_) (fun ct => ?_)
    · have h := h.1 ct
      refine lv_aload_n hx hb dX5_bitten_36 rfl (lv_at hl 0 rfl) ?_
      refine wi_allM (rn_V (rest := []) (ci := 3) hx hb hml hown hT hl.1 hC hS hP hD 0 rfl rfl rfl ck_X5_110 (c_X5_bad l G cs ts a H.size M L  _ h) ⟨rfl, rfl, (Nat.le_of_ble_eq_true rfl), (Nat.le_of_ble_eq_true rfl)⟩ ⟨Nat.le_refl _, Nat.le_refl _⟩ rfl rfl (Nat.le_of_ble_eq_true rfl) dX5_bitten_37) hD hS hA (fun r6 M7 L8 H locs hP hD hS h => ?_)
      exact rt_Wi hx hb hr hlk dX5_bitten_40 (M7, L8) hP hD hS h
    · have h := h.2 ct
      refine lv_iload hx hb dX5_bitten_15 (lv_at hl 4 rfl) ?_
      refine lv_i2l (v := x4.toInt64) hx hb dX5_bitten_17 rfl ?_
      refine lv_lconst (v := 0) hx hb dX5_bitten_18 (by decide) ?_
      refine ki_X5_70 hx hb hT hown dX5_bitten_19 ?_
      refine cl_Si (rn_S (rest := []) hx hb hml hown hT hl.1 ck_X5_54 (c_X5_in l x4.toInt64 0 3 _ h) ⟨rfl, rfl, (Nat.le_of_ble_eq_true rfl), (Nat.le_of_ble_eq_true rfl)⟩ ⟨Nat.zero_le _, Nat.zero_le _⟩ rfl rfl (Nat.le_of_ble_eq_true rfl) dX5_bitten_22) (fun r9 h => ?_)
      refine lv_if_eq (tgt := 36) hx hb dX5_bitten_25 (by decide) (fun ct => ?_) (fun ct => ?_)
      · have h := h.1 ct
        refine lv_aload_n hx hb dX5_bitten_36 rfl (lv_at hl 0 rfl) ?_
        refine wi_allM (rn_V (rest := []) (ci := 3) hx hb hml hown hT hl.1 hC hS hP hD 0 rfl rfl rfl ck_X5_110 (c_X5_bad l G cs ts a H.size M L  _ h) ⟨rfl, rfl, (Nat.le_of_ble_eq_true rfl), (Nat.le_of_ble_eq_true rfl)⟩ ⟨Nat.le_refl _, Nat.le_refl _⟩ rfl rfl (Nat.le_of_ble_eq_true rfl) dX5_bitten_37) hD hS hA (fun r10 M11 L12 H locs hP hD hS h => ?_)
        exact rt_Wi hx hb hr hlk dX5_bitten_40 (M11, L12) hP hD hS h
      · have h := h.2 ct
        refine lv_iload hx hb dX5_bitten_28 (lv_at hl 5 rfl) ?_
        refine cl_Si (rn_S (rest := []) hx hb hml hown hT hl.1 ck_X5_62 (c_X5_isWhat l x5 _ h) ⟨rfl, rfl, (Nat.le_of_ble_eq_true rfl), (Nat.le_of_ble_eq_true rfl)⟩ ⟨Nat.zero_le _, Nat.zero_le _⟩ rfl rfl (Nat.le_of_ble_eq_true rfl) dX5_bitten_30) (fun r13 h => ?_)
        refine lv_if_ne (tgt := 41) hx hb dX5_bitten_33 (by decide) (fun ct => ?_) (fun ct => ?_)
        · have h := h.1 ct
          refine lv_aload_n hx hb dX5_bitten_41 rfl (lv_at hl 0 rfl) ?_
          refine lv_iload_n hx hb dX5_bitten_42 rfl (lv_at hl 1 rfl) ?_
          refine lv_iload hx hb dX5_bitten_43 (lv_at hl 4 rfl) ?_
          refine wi_allM (rn_V (rest := []) (ci := 3) hx hb hml hown hT hl.1 hC hS hP hD 0 rfl rfl rfl ck_X5_90 (c_X5_looksOf l G cs ts a H.size M L x1 x4 _ h) ⟨rfl, rfl, (Nat.le_of_ble_eq_true rfl), (Nat.le_of_ble_eq_true rfl)⟩ ⟨Nat.le_refl _, Nat.le_refl _⟩ rfl rfl (Nat.le_of_ble_eq_true rfl) dX5_bitten_45) hD hS hA (fun r14 M15 L16 H locs hP hD hS h => ?_)
          refine lv_istore (lv' := [(6, .int r14), (0, .ref (a 99)), (1, .int x1), (2, .int x2), (3, .int x3), (4, .int x4), (5, .int x5)]) hx hb dX5_bitten_48 hl (by decide) rfl (fun ls hl => ?_)
          refine lv_iconst (v := 0) hx hb dX5_bitten_50 (by decide) ?_
          refine lv_istore (lv' := [(7, .int 0), (6, .int r14), (0, .ref (a 99)), (1, .int x1), (2, .int x2), (3, .int x3), (4, .int x4), (5, .int x5)]) hx hb dX5_bitten_51 hl (by decide) rfl (fun ls hl => ?_)
          refine lv_iconst (v := 1) hx hb dX5_bitten_53 (by decide) ?_
          refine lv_istore (lv' := [(8, .int 1), (7, .int 0), (6, .int r14), (0, .ref (a 99)), (1, .int x1), (2, .int x2), (3, .int x3), (4, .int x4), (5, .int x5)]) hx hb dX5_bitten_54 hl (by decide) rfl (fun ls hl => ?_)
          refine lv_iconst (v := 0) hx hb dX5_bitten_56 (by decide) ?_
          refine lv_istore (lv' := [(9, .int 0), (8, .int 1), (7, .int 0), (6, .int r14), (0, .ref (a 99)), (1, .int x1), (2, .int x2), (3, .int x3), (4, .int x4), (5, .int x5)]) hx hb dX5_bitten_57 hl (by decide) rfl (fun ls hl => ?_)
          obtain ⟨n30, h⟩ := h
          refine HL59 _ _ _ _ _ _ _ _ _ (fun v20 v21 v22 h H locs hP hD hS ls hl => ?_) n30 _ _ _ h _ _ hP hD hS ls (lv_sub hl [4, 5, 6, 7, 8, 9, 3, 2, 1, 0] rfl)
          refine lv_iload hx hb dX5_bitten_167 (lv_at hl 5 rfl) ?_
          refine lv_iconst (v := 1) hx hb dX5_bitten_169 (by decide) ?_
          refine lv_icmp_ne (tgt := 184) hx hb dX5_bitten_170 (by decide) (fun ct => ?_) (fun ct => ?_)
          · have h := h.1 ct
            refine lv_iconst (v := 0) hx hb dX5_bitten_184 (by decide) ?_
            refine lv_istore (lv' := [(9, .int 0), (0, .ref (a 99)), (1, .int x1), (2, .int x2), (3, .int x3), (4, .int x4), (5, .int x5), (6, .int r14), (7, .int v20), (8, .int v21)]) hx hb dX5_bitten_185 hl (by decide) rfl (fun ls hl => ?_)
            refine lv_iconst (v := 0) hx hb dX5_bitten_187 (by decide) ?_
            refine lv_istore (lv' := [(10, .int 0), (9, .int 0), (0, .ref (a 99)), (1, .int x1), (2, .int x2), (3, .int x3), (4, .int x4), (5, .int x5), (6, .int r14), (7, .int v20), (8, .int v21)]) hx hb dX5_bitten_188 hl (by decide) rfl (fun ls hl => ?_)
            obtain ⟨n29, h⟩ := h
            refine HL190 _ _ _ _ _ _ _ _ _ _ _ (fun v27 v28 h H locs hP hD hS ls hl => ?_) n29 _ _ h _ _ hP hD hS ls (lv_sub hl [2, 3, 4, 5, 6, 7, 8, 9, 10, 1, 0] rfl)
            refine lv_iload hx hb dX5_bitten_231 (lv_at hl 9 rfl) ?_
            exact rt_Wi hx hb hr hlk dX5_bitten_233 (M15, L16) hP hD hS h
          · have h := h.2 ct
            refine lv_iload hx hb dX5_bitten_173 (lv_at hl 8 rfl) ?_
            refine lv_if_eq (tgt := 182) hx hb dX5_bitten_175 (by decide) (fun ct => ?_) (fun ct => ?_)
            · have h := h.1 ct
              refine lv_iconst (v := 0) hx hb dX5_bitten_182 (by decide) ?_
              exact rt_Wi hx hb hr hlk dX5_bitten_183 (M15, L16) hP hD hS h
            · have h := h.2 ct
              refine lv_iconst (v := 1) hx hb dX5_bitten_178 (by decide) ?_
              refine lv_goto (tgt := 183) hx hb dX5_bitten_179 (by decide) ?_
              exact rt_Wi hx hb hr hlk dX5_bitten_183 (M15, L16) hP hD hS h
        · have h := h.2 ct
          refine lv_aload_n hx hb dX5_bitten_36 rfl (lv_at hl 0 rfl) ?_
          refine wi_allM (rn_V (rest := []) (ci := 3) hx hb hml hown hT hl.1 hC hS hP hD 0 rfl rfl rfl ck_X5_110 (c_X5_bad l G cs ts a H.size M L  _ h) ⟨rfl, rfl, (Nat.le_of_ble_eq_true rfl), (Nat.le_of_ble_eq_true rfl)⟩ ⟨Nat.le_refl _, Nat.le_refl _⟩ rfl rfl (Nat.le_of_ble_eq_true rfl) dX5_bitten_37) hD hS hA (fun r31 M32 L33 H locs hP hD hS h => ?_)
          exact rt_Wi hx hb hr hlk dX5_bitten_40 (M32, L33) hP hD hS h
abbrev rm_X5_setFraction : Room := { frames := 0, cells := 0, slots := 0, locals := 0 }
set_option maxRecDepth 100000 in
set_option maxHeartbeats 4000000 in
theorem c_X5_setFraction (l : Launch) (G : va_G) (cs ts : Nat → Nat) (a : Nat → Nat) (sz : Nat)  (M : ZI) (L : ZL)   (x1 : Int64) (x3 : Int64) (post : ZI → ZL → Prop) (h : w_X5_setFraction M L x1 x3 post) : Met l yX5_setFraction [.code yX5_setFraction cX5_setFraction 11 none] rm_X5_setFraction (va_Pc [.ref (a 99), .long x1, .long x3] (CP G cs ts (mdW a cs M L) sz)) (va_Qv (fun (u : ZI × ZL) => post u.1 u.2) (CB G (va_A (mdW a cs M L) sz) (fun u => (mdW a cs u.1 u.2))) (va_A (mdW a cs M L) sz)) 0 0 (va_A (mdW a cs M L) sz) := by
  refine ax_W (Qc := fun A => va_Qv (fun (u : ZI × ZL) => post u.1 u.2) (CB G A (fun u => (mdW a cs u.1 u.2))) A) (by decide) (Nat.le_of_ble_eq_true rfl) sz ?_
  intro p e s m args below meth c A hx hb hr hlk hml hown hT hC hnm H locs hP hD hS ls hl
  have hK := hC.2.1
  have hA := hC.2.2
  have hl : lv_has ls 11 [(0, .ref (a 99)), (1, .long x1), (3, .long x3)] := hl
  unfold w_X5_setFraction at h
  have HL6 : ∀ (Mf : ZI) (Lf : ZL) (z1 : Int64) (z3 : Int64) (K : Int64 → Int64 → Prop), (∀  (y5 : Int64) (y7 : Int64), K y5 y7 → ∀ (H : Heap) (locs : List Loc), va_P G vwCl (mdW a cs Mf Lf) H → va_D A (mdW a cs Mf Lf) → va_S A s.heap H locs → ∀ ls : Array Slot, lv_has ls 11 [(0, .ref (a 99)), (1, .long z1), (3, .long z3), (5, .long y5), (7, .long y7)] → W p l e rm_X5_setFraction s m args below meth c H locs 0 0 (MQ below (va_Qv (fun (u : ZI × ZL) => post u.1 u.2) (CB G A (fun u => (mdW a cs u.1 u.2))) A) args s 0 0 A) (F0 m 31 ls [])) → ∀ (n : Nat)  (y5 : Int64) (y7 : Int64), itF (w_X5_setFraction_L6 Mf Lf z1 z3 post K) (fun _ _ => False) n y5 y7 → ∀ (H : Heap) (locs : List Loc), va_P G vwCl (mdW a cs Mf Lf) H → va_D A (mdW a cs Mf Lf) → va_S A s.heap H locs → ∀ ls : Array Slot, lv_has ls 11 [(0, .ref (a 99)), (1, .long z1), (3, .long z3), (5, .long y5), (7, .long y7)] → W p l e rm_X5_setFraction s m args below meth c H locs 0 0 (MQ below (va_Qv (fun (u : ZI × ZL) => post u.1 u.2) (CB G A (fun u => (mdW a cs u.1 u.2))) A) args s 0 0 A) (F0 m 6 ls []) := by
    intro Mf Lf z1 z3 K hKK n
    induction n with
    | zero =>
      intro y5 y7 h
      exact absurd h id
    | succ n ih =>
      intro y5 y7 h H locs hP hD hS ls hl
      have h : w_X5_setFraction_L6 Mf Lf z1 z3 post K (itF (w_X5_setFraction_L6 Mf Lf z1 z3 post K) (fun _ _ => False) n) y5 y7 := h
      generalize itF (w_X5_setFraction_L6 Mf Lf z1 z3 post K) (fun _ _ => False) n = rec at h ih
      unfold w_X5_setFraction_L6 at h
      refine lv_lload hx hb dX5_setFraction_6 (lv_at hl 4 rfl) ?_
      refine lv_lconst (v := 0) hx hb dX5_setFraction_8 (by decide) ?_
      refine W.lcmp hx hb dX5_setFraction_9 ?_
      refine lv_if_eq (tgt := 31) hx hb dX5_setFraction_10 (by decide) (fun ct => ?_) (fun ct => ?_)
      · have h := h.1 ct
        exact hKK _ _ h _ _ hP hD hS ls (lv_sub hl [0, 1, 2, 3, 4] rfl)
      · have h := h.2 ct
        refine lv_lload hx hb dX5_setFraction_13 (lv_at hl 3 rfl) ?_
        refine lv_lload hx hb dX5_setFraction_15 (lv_at hl 4 rfl) ?_
        obtain ⟨hi, h⟩ := h
        refine lv_lrem hx hb dX5_setFraction_17 hi ?_
        refine lv_topl (fun v1 ev1 => ?_)
        have h := h v1 ev1
        refine lv_lstore (lv' := [(9, .long v1), (0, .ref (a 99)), (1, .long z1), (3, .long z3), (5, .long y5), (7, .long y7)]) hx hb dX5_setFraction_18 hl (by decide) rfl (fun ls hl => ?_)
        refine lv_lload hx hb dX5_setFraction_20 (lv_at hl 5 rfl) ?_
        refine lv_lstore (lv' := [(5, .long y7), (9, .long v1), (0, .ref (a 99)), (1, .long z1), (3, .long z3), (7, .long y7)]) hx hb dX5_setFraction_22 hl (by decide) rfl (fun ls hl => ?_)
        refine lv_lload hx hb dX5_setFraction_24 (lv_at hl 1 rfl) ?_
        refine lv_lstore (lv' := [(7, .long v1), (5, .long y7), (9, .long v1), (0, .ref (a 99)), (1, .long z1), (3, .long z3)]) hx hb dX5_setFraction_26 hl (by decide) rfl (fun ls hl => ?_)
        refine lv_goto (tgt := 6) hx hb dX5_setFraction_28 (by decide) ?_
        exact ih _ _ h _ _ hP hD hS ls (lv_sub hl [3, 4, 5, 1, 0] rfl)
  refine lv_lload_n hx hb dX5_setFraction_0 rfl (lv_at hl 1 rfl) ?_
  refine lv_lstore (lv' := [(5, .long x1), (0, .ref (a 99)), (1, .long x1), (3, .long x3)]) hx hb dX5_setFraction_1 hl (by decide) rfl (fun ls hl => ?_)
  refine lv_lload_n hx hb dX5_setFraction_3 rfl (lv_at hl 3 rfl) ?_
  refine lv_lstore (lv' := [(7, .long x3), (5, .long x1), (0, .ref (a 99)), (1, .long x1), (3, .long x3)]) hx hb dX5_setFraction_4 hl (by decide) rfl (fun ls hl => ?_)
  obtain ⟨n6, h⟩ := h
  refine HL6 _ _ _ _ _ (fun v2 v3 h H locs hP hD hS ls hl => ?_) n6 _ _ h _ _ hP hD hS ls (lv_sub hl [2, 3, 4, 1, 0] rfl)
  refine lv_aload_n hx hb dX5_setFraction_31 rfl (lv_at hl 0 rfl) ?_
  refine lv_lload_n hx hb dX5_setFraction_32 rfl (lv_at hl 1 rfl) ?_
  refine lv_lload hx hb dX5_setFraction_33 (lv_at hl 3 rfl) ?_
  obtain ⟨hi, h⟩ := h
  refine lv_ldiv hx hb dX5_setFraction_35 hi ?_
  refine pf_X5_219 hx hb hT hown hK hP hD hS 0 rfl (Nat.le_of_ble_eq_true rfl) dX5_setFraction_36 (fun H locs hP hD hS => ?_)
  obtain ⟨L4, eL4⟩ : ∃ z : ZL, z = ml L 1 0 (x1 / v2) := ⟨_, rfl⟩
  have h := h L4 eL4
  have hP : va_P G vwCl (mdW a cs M L4) H := by rw [eL4]; exact hP
  have hD : va_D A (mdW a cs M L4) := by rw [eL4]; exact hD
  refine lv_aload_n hx hb dX5_setFraction_39 rfl (lv_at hl 0 rfl) ?_
  refine lv_lload_n hx hb dX5_setFraction_40 rfl (lv_at hl 2 rfl) ?_
  refine lv_lload hx hb dX5_setFraction_41 (lv_at hl 3 rfl) ?_
  obtain ⟨hi, h⟩ := h
  refine lv_ldiv hx hb dX5_setFraction_43 hi ?_
  refine pf_X5_13 hx hb hT hown hK hP hD hS 0 rfl (Nat.le_of_ble_eq_true rfl) dX5_setFraction_44 (fun H locs hP hD hS => ?_)
  obtain ⟨L5, eL5⟩ : ∃ z : ZL, z = ml L4 2 0 (x3 / v2) := ⟨_, rfl⟩
  have h := h L5 eL5
  have hP : va_P G vwCl (mdW a cs M L5) H := by rw [eL5]; exact hP
  have hD : va_D A (mdW a cs M L5) := by rw [eL5]; exact hD
  exact rt_Wv hx hb hr hlk dX5_setFraction_47 (M, L5) hP hD hS h
abbrev rm_X5_slips : Room := { frames := 4, cells := 0, slots := 0, locals := 102 }
set_option maxRecDepth 100000 in
set_option maxHeartbeats 4000000 in
theorem c_X5_slips (l : Launch) (G : va_G) (cs ts : Nat → Nat) (a : Nat → Nat) (sz : Nat)  (M : ZI) (L : ZL)   (x1 : Int32) (x2 : Int32) (x3 : Int32) (x4 : Int32) (x5 : Int32) (x6 : Int32) (x7 : Int32) (post : Int32 → ZI → ZL → Prop) (h : w_X5_slips M L x1 x2 x3 x4 x5 x6 x7 post) : Met l yX5_slips [.code yX5_slips cX5_slips 17 (some .int)] rm_X5_slips (va_Pc [.ref (a 99), .int x1, .int x2, .int x3, .int x4, .int x5, .int x6, .int x7] (CP G cs ts (mdW a cs M L) sz)) (va_Qi (fun (r : Int32) (u : ZI × ZL) => post r u.1 u.2) (CB G (va_A (mdW a cs M L) sz) (fun u => (mdW a cs u.1 u.2))) (va_A (mdW a cs M L) sz)) 0 0 (va_A (mdW a cs M L) sz) := by
  refine ax_W (Qc := fun A => va_Qi (fun (r : Int32) (u : ZI × ZL) => post r u.1 u.2) (CB G A (fun u => (mdW a cs u.1 u.2))) A) (by decide) (Nat.le_of_ble_eq_true rfl) sz ?_
  intro p e s m args below meth c A hx hb hr hlk hml hown hT hC hnm H locs hP hD hS ls hl
  have hK := hC.2.1
  have hA := hC.2.2
  have hl : lv_has ls 17 [(0, .ref (a 99)), (1, .int x1), (2, .int x2), (3, .int x3), (4, .int x4), (5, .int x5), (6, .int x6), (7, .int x7)] := hl
  unfold w_X5_slips at h
  have HL82 : ∀  (z1 : Int32) (z2 : Int32) (z3 : Int32) (z4 : Int32) (z5 : Int32) (z6 : Int32) (z7 : Int32) (z8 : Int32) (K : ZI → ZL → Int64 → Int64 → Int32 → Int32 → Prop), (∀ (Mv : ZI) (Lv : ZL) (y9 : Int64) (y11 : Int64) (y13 : Int32) (y14 : Int32), K Mv Lv y9 y11 y13 y14 → ∀ (H : Heap) (locs : List Loc), va_P G vwCl (mdW a cs Mv Lv) H → va_D A (mdW a cs Mv Lv) → va_S A s.heap H locs → ∀ ls : Array Slot, lv_has ls 17 [(0, .ref (a 99)), (1, .int z1), (2, .int z2), (3, .int z3), (4, .int z4), (5, .int z5), (6, .int z6), (7, .int z7), (8, .int z8), (9, .long y9), (11, .long y11), (13, .int y13), (14, .int y14)] → W p l e rm_X5_slips s m args below meth c H locs 0 0 (MQ below (va_Qi (fun (r : Int32) (u : ZI × ZL) => post r u.1 u.2) (CB G A (fun u => (mdW a cs u.1 u.2))) A) args s 0 0 A) (F0 m 192 ls [])) → ∀ (n : Nat) (Mv : ZI) (Lv : ZL) (y9 : Int64) (y11 : Int64) (y13 : Int32) (y14 : Int32), itF (w_X5_slips_L82 z1 z2 z3 z4 z5 z6 z7 z8 post K) (fun _ _ _ _ _ _ => False) n Mv Lv y9 y11 y13 y14 → ∀ (H : Heap) (locs : List Loc), va_P G vwCl (mdW a cs Mv Lv) H → va_D A (mdW a cs Mv Lv) → va_S A s.heap H locs → ∀ ls : Array Slot, lv_has ls 17 [(0, .ref (a 99)), (1, .int z1), (2, .int z2), (3, .int z3), (4, .int z4), (5, .int z5), (6, .int z6), (7, .int z7), (8, .int z8), (9, .long y9), (11, .long y11), (13, .int y13), (14, .int y14)] → W p l e rm_X5_slips s m args below meth c H locs 0 0 (MQ below (va_Qi (fun (r : Int32) (u : ZI × ZL) => post r u.1 u.2) (CB G A (fun u => (mdW a cs u.1 u.2))) A) args s 0 0 A) (F0 m 82 ls []) := by
    intro z1 z2 z3 z4 z5 z6 z7 z8 K hKK n
    induction n with
    | zero =>
      intro Mv Lv y9 y11 y13 y14 h
      exact absurd h id
    | succ n ih =>
      intro Mv Lv y9 y11 y13 y14 h H locs hP hD hS ls hl
      have h : w_X5_slips_L82 z1 z2 z3 z4 z5 z6 z7 z8 post K (itF (w_X5_slips_L82 z1 z2 z3 z4 z5 z6 z7 z8 post K) (fun _ _ _ _ _ _ => False) n) Mv Lv y9 y11 y13 y14 := h
      generalize itF (w_X5_slips_L82 z1 z2 z3 z4 z5 z6 z7 z8 post K) (fun _ _ _ _ _ _ => False) n = rec at h ih
      unfold w_X5_slips_L82 at h
      refine lv_iload hx hb dX5_slips_82 (lv_at hl 12 rfl) ?_
      refine lv_iload hx hb dX5_slips_84 (lv_at hl 5 rfl) ?_
      refine lv_icmp_ge (tgt := 192) hx hb dX5_slips_86 (by decide) (fun ct => ?_) (fun ct => ?_)
      · have h := h.1 ct
        exact hKK _ _ _ _ _ _ h _ _ hP hD hS ls (lv_sub hl [0, 1, 2, 3, 4, 5, 6, 7, 8, 9, 10, 11, 12] rfl)
      · have h := h.2 ct
        refine lv_aload_n hx hb dX5_slips_89 rfl (lv_at hl 0 rfl) ?_
        refine lv_iload_n hx hb dX5_slips_90 rfl (lv_at hl 1 rfl) ?_
        refine lv_iload hx hb dX5_slips_91 (lv_at hl 8 rfl) ?_
        refine lv_iload_n hx hb dX5_slips_93 rfl (lv_at hl 3 rfl) ?_
        refine lv_iload hx hb dX5_slips_94 (lv_at hl 4 rfl) ?_
        refine lv_iload hx hb dX5_slips_96 (lv_at hl 11 rfl) ?_
        refine wv_allM (rn_V (rest := []) (ci := 3) hx hb hml hown hT hl.1 hC hS hP hD 0 rfl rfl rfl ck_X5_93 (c_X5_inkBy l G cs ts a H.size Mv Lv z1 z8 z3 z4 y13 _ h) ⟨rfl, rfl, (Nat.le_of_ble_eq_true rfl), (Nat.le_of_ble_eq_true rfl)⟩ ⟨Nat.le_refl _, Nat.le_refl _⟩ rfl rfl (Nat.le_of_ble_eq_true rfl) dX5_slips_98) hD hS hA (fun M18 L19 H locs hP hD hS h => ?_)
        refine lv_aload_n hx hb dX5_slips_101 rfl (lv_at hl 0 rfl) ?_
        refine gf_X5_20 hx hb hT hown hK hP 0 rfl rfl dX5_slips_102 ?_
        refine lv_iload hx hb dX5_slips_105 (lv_at hl 7 rfl) ?_
        obtain ⟨hi, h⟩ := h
        refine va_iald hx hb hK hP 3 0 rfl rfl hi dX5_slips_107 ?_
        refine lv_if_le (tgt := 115) hx hb dX5_slips_108 (by decide) (fun ct => ?_) (fun ct => ?_)
        · have h := h.1 ct
          refine ki_X5_222 hx hb hT hown dX5_slips_115 ?_
          refine lv_iload hx hb dX5_slips_118 (lv_at hl 6 rfl) ?_
          refine lv_i2l (v := z6.toInt64) hx hb dX5_slips_120 rfl ?_
          refine lv_lsub hx hb dX5_slips_121 ?_
          refine lv_topl (fun v20 ev20 => ?_)
          have h := h v20 ev20
          refine lv_lstore (lv' := [(15, .long v20), (0, .ref (a 99)), (1, .int z1), (2, .int z2), (3, .int z3), (4, .int z4), (5, .int z5), (6, .int z6), (7, .int z7), (8, .int z8), (9, .long y9), (11, .long y11), (13, .int y13), (14, .int y14)]) hx hb dX5_slips_122 hl (by decide) rfl (fun ls hl => ?_)
          refine lv_aload_n hx hb dX5_slips_124 rfl (lv_at hl 1 rfl) ?_
          refine lv_iload_n hx hb dX5_slips_125 rfl (lv_at hl 2 rfl) ?_
          refine lv_iload hx hb dX5_slips_126 (lv_at hl 9 rfl) ?_
          refine lv_iload_n hx hb dX5_slips_128 rfl (lv_at hl 4 rfl) ?_
          refine lv_iconst (v := 1) hx hb dX5_slips_129 (by decide) ?_
          refine lv_iadd hx hb dX5_slips_130 ?_
          refine lv_iload hx hb dX5_slips_131 (lv_at hl 5 rfl) ?_
          refine lv_iload hx hb dX5_slips_133 (lv_at hl 12 rfl) ?_
          refine wv_allM (rn_V (rest := []) (ci := 3) hx hb hml hown hT hl.1 hC hS hP hD 0 rfl rfl rfl ck_X5_93 (c_X5_inkBy l G cs ts a H.size M18 L19 z1 z8 (z3 + 1) z4 y13 _ h) ⟨rfl, rfl, (Nat.le_of_ble_eq_true rfl), (Nat.le_of_ble_eq_true rfl)⟩ ⟨Nat.le_refl _, Nat.le_refl _⟩ rfl rfl (Nat.le_of_ble_eq_true rfl) dX5_slips_135) hD hS hA (fun M21 L22 H locs hP hD hS h => ?_)
          refine lv_lload hx hb dX5_slips_138 (lv_at hl 0 rfl) ?_
          refine lv_aload_n hx hb dX5_slips_140 rfl (lv_at hl 1 rfl) ?_
          refine gf_X5_20 hx hb hT hown hK hP 0 rfl rfl dX5_slips_141 ?_
          refine lv_iload hx hb dX5_slips_144 (lv_at hl 8 rfl) ?_
          obtain ⟨hi, h⟩ := h
          refine va_iald hx hb hK hP 3 0 rfl rfl hi dX5_slips_146 ?_
          refine lv_if_le (tgt := 154) hx hb dX5_slips_147 (by decide) (fun ct => ?_) (fun ct => ?_)
          · have h := h.1 ct
            refine lv_iload hx hb dX5_slips_154 (lv_at hl 7 rfl) ?_
            refine lv_i2l (v := z6.toInt64) hx hb dX5_slips_156 rfl ?_
            refine lv_ladd hx hb dX5_slips_157 ?_
            refine lv_topl (fun v23 ev23 => ?_)
            have h := h v23 ev23
            refine lv_lstore (lv' := [(15, .long v23), (0, .ref (a 99)), (1, .int z1), (2, .int z2), (3, .int z3), (4, .int z4), (5, .int z5), (6, .int z6), (7, .int z7), (8, .int z8), (9, .long y9), (11, .long y11), (13, .int y13), (14, .int y14)]) hx hb dX5_slips_158 hl (by decide) rfl (fun ls hl => ?_)
            refine lv_lload hx hb dX5_slips_160 (lv_at hl 10 rfl) ?_
            refine lv_lload hx hb dX5_slips_162 (lv_at hl 0 rfl) ?_
            refine lv_lmul hx hb dX5_slips_164 ?_
            refine lv_topl (fun v24 ev24 => ?_)
            have h := h v24 ev24
            refine lv_lstore (lv' := [(9, .long v24), (15, .long v23), (0, .ref (a 99)), (1, .int z1), (2, .int z2), (3, .int z3), (4, .int z4), (5, .int z5), (6, .int z6), (7, .int z7), (8, .int z8), (11, .long y11), (13, .int y13), (14, .int y14)]) hx hb dX5_slips_165 hl (by decide) rfl (fun ls hl => ?_)
            refine lv_lload hx hb dX5_slips_167 (lv_at hl 11 rfl) ?_
            refine ki_X5_222 hx hb hT hown dX5_slips_169 ?_
            refine lv_lmul hx hb dX5_slips_172 ?_
            refine lv_topl (fun v25 ev25 => ?_)
            have h := h v25 ev25
            refine lv_lstore (lv' := [(11, .long v25), (9, .long v24), (15, .long v23), (0, .ref (a 99)), (1, .int z1), (2, .int z2), (3, .int z3), (4, .int z4), (5, .int z5), (6, .int z6), (7, .int z7), (8, .int z8), (13, .int y13), (14, .int y14)]) hx hb dX5_slips_173 hl (by decide) rfl (fun ls hl => ?_)
            refine lv_iload hx hb dX5_slips_175 (lv_at hl 12 rfl) ?_
            refine lv_iload_n hx hb dX5_slips_177 rfl (lv_at hl 4 rfl) ?_
            refine lv_iload hx hb dX5_slips_178 (lv_at hl 12 rfl) ?_
            refine cl_Si (rn_S (rest := [.int y13]) hx hb hml hown hT hl.1 ck_X5_101 (c_X5_takesBy l z1 y13 _ h) ⟨rfl, rfl, (Nat.le_of_ble_eq_true rfl), (Nat.le_of_ble_eq_true rfl)⟩ ⟨Nat.zero_le _, Nat.zero_le _⟩ rfl rfl (Nat.le_of_ble_eq_true rfl) dX5_slips_180) (fun r26 h => ?_)
            refine lv_isub hx hb dX5_slips_183 ?_
            refine lv_topi (fun v27 ev27 => ?_)
            have h := h v27 ev27
            refine lv_istore (lv' := [(13, .int v27), (11, .long v25), (9, .long v24), (15, .long v23), (0, .ref (a 99)), (1, .int z1), (2, .int z2), (3, .int z3), (4, .int z4), (5, .int z5), (6, .int z6), (7, .int z7), (8, .int z8), (14, .int y14)]) hx hb dX5_slips_184 hl (by decide) rfl (fun ls hl => ?_)
            refine lv_iinc (v := y14 + 1) (lv' := [(14, .int (y14 + 1)), (13, .int v27), (11, .long v25), (9, .long v24), (15, .long v23), (0, .ref (a 99)), (1, .int z1), (2, .int z2), (3, .int z3), (4, .int z4), (5, .int z5), (6, .int z6), (7, .int z7), (8, .int z8)]) hx hb dX5_slips_186 hl (k := 13) rfl rfl (by decide) rfl (fun ls hl => ?_)
            refine lv_goto (tgt := 82) hx hb dX5_slips_189 (by decide) ?_
            exact ih _ _ _ _ _ _ h _ _ hP hD hS ls (lv_sub hl [5, 6, 7, 8, 9, 10, 11, 12, 13, 3, 2, 1, 0] rfl)
          · have h := h.2 ct
            refine lv_lconst (v := 0) hx hb dX5_slips_150 (by decide) ?_
            refine lv_goto (tgt := 157) hx hb dX5_slips_151 (by decide) ?_
            refine lv_ladd hx hb dX5_slips_157 ?_
            refine lv_topl (fun v28 ev28 => ?_)
            have h := h v28 ev28
            refine lv_lstore (lv' := [(15, .long v28), (0, .ref (a 99)), (1, .int z1), (2, .int z2), (3, .int z3), (4, .int z4), (5, .int z5), (6, .int z6), (7, .int z7), (8, .int z8), (9, .long y9), (11, .long y11), (13, .int y13), (14, .int y14)]) hx hb dX5_slips_158 hl (by decide) rfl (fun ls hl => ?_)
            refine lv_lload hx hb dX5_slips_160 (lv_at hl 10 rfl) ?_
            refine lv_lload hx hb dX5_slips_162 (lv_at hl 0 rfl) ?_
            refine lv_lmul hx hb dX5_slips_164 ?_
            refine lv_topl (fun v29 ev29 => ?_)
            have h := h v29 ev29
            refine lv_lstore (lv' := [(9, .long v29), (15, .long v28), (0, .ref (a 99)), (1, .int z1), (2, .int z2), (3, .int z3), (4, .int z4), (5, .int z5), (6, .int z6), (7, .int z7), (8, .int z8), (11, .long y11), (13, .int y13), (14, .int y14)]) hx hb dX5_slips_165 hl (by decide) rfl (fun ls hl => ?_)
            refine lv_lload hx hb dX5_slips_167 (lv_at hl 11 rfl) ?_
            refine ki_X5_222 hx hb hT hown dX5_slips_169 ?_
            refine lv_lmul hx hb dX5_slips_172 ?_
            refine lv_topl (fun v30 ev30 => ?_)
            have h := h v30 ev30
            refine lv_lstore (lv' := [(11, .long v30), (9, .long v29), (15, .long v28), (0, .ref (a 99)), (1, .int z1), (2, .int z2), (3, .int z3), (4, .int z4), (5, .int z5), (6, .int z6), (7, .int z7), (8, .int z8), (13, .int y13), (14, .int y14)]) hx hb dX5_slips_173 hl (by decide) rfl (fun ls hl => ?_)
            refine lv_iload hx hb dX5_slips_175 (lv_at hl 12 rfl) ?_
            refine lv_iload_n hx hb dX5_slips_177 rfl (lv_at hl 4 rfl) ?_
            refine lv_iload hx hb dX5_slips_178 (lv_at hl 12 rfl) ?_
            refine cl_Si (rn_S (rest := [.int y13]) hx hb hml hown hT hl.1 ck_X5_101 (c_X5_takesBy l z1 y13 _ h) ⟨rfl, rfl, (Nat.le_of_ble_eq_true rfl), (Nat.le_of_ble_eq_true rfl)⟩ ⟨Nat.zero_le _, Nat.zero_le _⟩ rfl rfl (Nat.le_of_ble_eq_true rfl) dX5_slips_180) (fun r31 h => ?_)
            refine lv_isub hx hb dX5_slips_183 ?_
            refine lv_topi (fun v32 ev32 => ?_)
            have h := h v32 ev32
            refine lv_istore (lv' := [(13, .int v32), (11, .long v30), (9, .long v29), (15, .long v28), (0, .ref (a 99)), (1, .int z1), (2, .int z2), (3, .int z3), (4, .int z4), (5, .int z5), (6, .int z6), (7, .int z7), (8, .int z8), (14, .int y14)]) hx hb dX5_slips_184 hl (by decide) rfl (fun ls hl => ?_)
            refine lv_iinc (v := y14 + 1) (lv' := [(14, .int (y14 + 1)), (13, .int v32), (11, .long v30), (9, .long v29), (15, .long v28), (0, .ref (a 99)), (1, .int z1), (2, .int z2), (3, .int z3), (4, .int z4), (5, .int z5), (6, .int z6), (7, .int z7), (8, .int z8)]) hx hb dX5_slips_186 hl (k := 13) rfl rfl (by decide) rfl (fun ls hl => ?_)
            refine lv_goto (tgt := 82) hx hb dX5_slips_189 (by decide) ?_
            exact ih _ _ _ _ _ _ h _ _ hP hD hS ls (lv_sub hl [5, 6, 7, 8, 9, 10, 11, 12, 13, 3, 2, 1, 0] rfl)
        · have h := h.2 ct
          refine lv_lconst (v := 0) hx hb dX5_slips_111 (by decide) ?_
          refine lv_goto (tgt := 122) hx hb dX5_slips_112 (by decide) ?_
          refine lv_lstore (lv' := [(15, .long 0), (0, .ref (a 99)), (1, .int z1), (2, .int z2), (3, .int z3), (4, .int z4), (5, .int z5), (6, .int z6), (7, .int z7), (8, .int z8), (9, .long y9), (11, .long y11), (13, .int y13), (14, .int y14)]) hx hb dX5_slips_122 hl (by decide) rfl (fun ls hl => ?_)
          refine lv_aload_n hx hb dX5_slips_124 rfl (lv_at hl 1 rfl) ?_
          refine lv_iload_n hx hb dX5_slips_125 rfl (lv_at hl 2 rfl) ?_
          refine lv_iload hx hb dX5_slips_126 (lv_at hl 9 rfl) ?_
          refine lv_iload_n hx hb dX5_slips_128 rfl (lv_at hl 4 rfl) ?_
          refine lv_iconst (v := 1) hx hb dX5_slips_129 (by decide) ?_
          refine lv_iadd hx hb dX5_slips_130 ?_
          refine lv_iload hx hb dX5_slips_131 (lv_at hl 5 rfl) ?_
          refine lv_iload hx hb dX5_slips_133 (lv_at hl 12 rfl) ?_
          refine wv_allM (rn_V (rest := []) (ci := 3) hx hb hml hown hT hl.1 hC hS hP hD 0 rfl rfl rfl ck_X5_93 (c_X5_inkBy l G cs ts a H.size M18 L19 z1 z8 (z3 + 1) z4 y13 _ h) ⟨rfl, rfl, (Nat.le_of_ble_eq_true rfl), (Nat.le_of_ble_eq_true rfl)⟩ ⟨Nat.le_refl _, Nat.le_refl _⟩ rfl rfl (Nat.le_of_ble_eq_true rfl) dX5_slips_135) hD hS hA (fun M33 L34 H locs hP hD hS h => ?_)
          refine lv_lload hx hb dX5_slips_138 (lv_at hl 0 rfl) ?_
          refine lv_aload_n hx hb dX5_slips_140 rfl (lv_at hl 1 rfl) ?_
          refine gf_X5_20 hx hb hT hown hK hP 0 rfl rfl dX5_slips_141 ?_
          refine lv_iload hx hb dX5_slips_144 (lv_at hl 8 rfl) ?_
          obtain ⟨hi, h⟩ := h
          refine va_iald hx hb hK hP 3 0 rfl rfl hi dX5_slips_146 ?_
          refine lv_if_le (tgt := 154) hx hb dX5_slips_147 (by decide) (fun ct => ?_) (fun ct => ?_)
          · have h := h.1 ct
            refine lv_iload hx hb dX5_slips_154 (lv_at hl 7 rfl) ?_
            refine lv_i2l (v := z6.toInt64) hx hb dX5_slips_156 rfl ?_
            refine lv_ladd hx hb dX5_slips_157 ?_
            refine lv_topl (fun v35 ev35 => ?_)
            have h := h v35 ev35
            refine lv_lstore (lv' := [(15, .long v35), (0, .ref (a 99)), (1, .int z1), (2, .int z2), (3, .int z3), (4, .int z4), (5, .int z5), (6, .int z6), (7, .int z7), (8, .int z8), (9, .long y9), (11, .long y11), (13, .int y13), (14, .int y14)]) hx hb dX5_slips_158 hl (by decide) rfl (fun ls hl => ?_)
            refine lv_lload hx hb dX5_slips_160 (lv_at hl 10 rfl) ?_
            refine lv_lload hx hb dX5_slips_162 (lv_at hl 0 rfl) ?_
            refine lv_lmul hx hb dX5_slips_164 ?_
            refine lv_topl (fun v36 ev36 => ?_)
            have h := h v36 ev36
            refine lv_lstore (lv' := [(9, .long v36), (15, .long v35), (0, .ref (a 99)), (1, .int z1), (2, .int z2), (3, .int z3), (4, .int z4), (5, .int z5), (6, .int z6), (7, .int z7), (8, .int z8), (11, .long y11), (13, .int y13), (14, .int y14)]) hx hb dX5_slips_165 hl (by decide) rfl (fun ls hl => ?_)
            refine lv_lload hx hb dX5_slips_167 (lv_at hl 11 rfl) ?_
            refine ki_X5_222 hx hb hT hown dX5_slips_169 ?_
            refine lv_lmul hx hb dX5_slips_172 ?_
            refine lv_topl (fun v37 ev37 => ?_)
            have h := h v37 ev37
            refine lv_lstore (lv' := [(11, .long v37), (9, .long v36), (15, .long v35), (0, .ref (a 99)), (1, .int z1), (2, .int z2), (3, .int z3), (4, .int z4), (5, .int z5), (6, .int z6), (7, .int z7), (8, .int z8), (13, .int y13), (14, .int y14)]) hx hb dX5_slips_173 hl (by decide) rfl (fun ls hl => ?_)
            refine lv_iload hx hb dX5_slips_175 (lv_at hl 12 rfl) ?_
            refine lv_iload_n hx hb dX5_slips_177 rfl (lv_at hl 4 rfl) ?_
            refine lv_iload hx hb dX5_slips_178 (lv_at hl 12 rfl) ?_
            refine cl_Si (rn_S (rest := [.int y13]) hx hb hml hown hT hl.1 ck_X5_101 (c_X5_takesBy l z1 y13 _ h) ⟨rfl, rfl, (Nat.le_of_ble_eq_true rfl), (Nat.le_of_ble_eq_true rfl)⟩ ⟨Nat.zero_le _, Nat.zero_le _⟩ rfl rfl (Nat.le_of_ble_eq_true rfl) dX5_slips_180) (fun r38 h => ?_)
            refine lv_isub hx hb dX5_slips_183 ?_
            refine lv_topi (fun v39 ev39 => ?_)
            have h := h v39 ev39
            refine lv_istore (lv' := [(13, .int v39), (11, .long v37), (9, .long v36), (15, .long v35), (0, .ref (a 99)), (1, .int z1), (2, .int z2), (3, .int z3), (4, .int z4), (5, .int z5), (6, .int z6), (7, .int z7), (8, .int z8), (14, .int y14)]) hx hb dX5_slips_184 hl (by decide) rfl (fun ls hl => ?_)
            refine lv_iinc (v := y14 + 1) (lv' := [(14, .int (y14 + 1)), (13, .int v39), (11, .long v37), (9, .long v36), (15, .long v35), (0, .ref (a 99)), (1, .int z1), (2, .int z2), (3, .int z3), (4, .int z4), (5, .int z5), (6, .int z6), (7, .int z7), (8, .int z8)]) hx hb dX5_slips_186 hl (k := 13) rfl rfl (by decide) rfl (fun ls hl => ?_)
            refine lv_goto (tgt := 82) hx hb dX5_slips_189 (by decide) ?_
            exact ih _ _ _ _ _ _ h _ _ hP hD hS ls (lv_sub hl [5, 6, 7, 8, 9, 10, 11, 12, 13, 3, 2, 1, 0] rfl)
          · have h := h.2 ct
            refine lv_lconst (v := 0) hx hb dX5_slips_150 (by decide) ?_
            refine lv_goto (tgt := 157) hx hb dX5_slips_151 (by decide) ?_
            refine lv_ladd hx hb dX5_slips_157 ?_
            refine lv_topl (fun v40 ev40 => ?_)
            have h := h v40 ev40
            refine lv_lstore (lv' := [(15, .long v40), (0, .ref (a 99)), (1, .int z1), (2, .int z2), (3, .int z3), (4, .int z4), (5, .int z5), (6, .int z6), (7, .int z7), (8, .int z8), (9, .long y9), (11, .long y11), (13, .int y13), (14, .int y14)]) hx hb dX5_slips_158 hl (by decide) rfl (fun ls hl => ?_)
            refine lv_lload hx hb dX5_slips_160 (lv_at hl 10 rfl) ?_
            refine lv_lload hx hb dX5_slips_162 (lv_at hl 0 rfl) ?_
            refine lv_lmul hx hb dX5_slips_164 ?_
            refine lv_topl (fun v41 ev41 => ?_)
            have h := h v41 ev41
            refine lv_lstore (lv' := [(9, .long v41), (15, .long v40), (0, .ref (a 99)), (1, .int z1), (2, .int z2), (3, .int z3), (4, .int z4), (5, .int z5), (6, .int z6), (7, .int z7), (8, .int z8), (11, .long y11), (13, .int y13), (14, .int y14)]) hx hb dX5_slips_165 hl (by decide) rfl (fun ls hl => ?_)
            refine lv_lload hx hb dX5_slips_167 (lv_at hl 11 rfl) ?_
            refine ki_X5_222 hx hb hT hown dX5_slips_169 ?_
            refine lv_lmul hx hb dX5_slips_172 ?_
            refine lv_topl (fun v42 ev42 => ?_)
            have h := h v42 ev42
            refine lv_lstore (lv' := [(11, .long v42), (9, .long v41), (15, .long v40), (0, .ref (a 99)), (1, .int z1), (2, .int z2), (3, .int z3), (4, .int z4), (5, .int z5), (6, .int z6), (7, .int z7), (8, .int z8), (13, .int y13), (14, .int y14)]) hx hb dX5_slips_173 hl (by decide) rfl (fun ls hl => ?_)
            refine lv_iload hx hb dX5_slips_175 (lv_at hl 12 rfl) ?_
            refine lv_iload_n hx hb dX5_slips_177 rfl (lv_at hl 4 rfl) ?_
            refine lv_iload hx hb dX5_slips_178 (lv_at hl 12 rfl) ?_
            refine cl_Si (rn_S (rest := [.int y13]) hx hb hml hown hT hl.1 ck_X5_101 (c_X5_takesBy l z1 y13 _ h) ⟨rfl, rfl, (Nat.le_of_ble_eq_true rfl), (Nat.le_of_ble_eq_true rfl)⟩ ⟨Nat.zero_le _, Nat.zero_le _⟩ rfl rfl (Nat.le_of_ble_eq_true rfl) dX5_slips_180) (fun r43 h => ?_)
            refine lv_isub hx hb dX5_slips_183 ?_
            refine lv_topi (fun v44 ev44 => ?_)
            have h := h v44 ev44
            refine lv_istore (lv' := [(13, .int v44), (11, .long v42), (9, .long v41), (15, .long v40), (0, .ref (a 99)), (1, .int z1), (2, .int z2), (3, .int z3), (4, .int z4), (5, .int z5), (6, .int z6), (7, .int z7), (8, .int z8), (14, .int y14)]) hx hb dX5_slips_184 hl (by decide) rfl (fun ls hl => ?_)
            refine lv_iinc (v := y14 + 1) (lv' := [(14, .int (y14 + 1)), (13, .int v44), (11, .long v42), (9, .long v41), (15, .long v40), (0, .ref (a 99)), (1, .int z1), (2, .int z2), (3, .int z3), (4, .int z4), (5, .int z5), (6, .int z6), (7, .int z7), (8, .int z8)]) hx hb dX5_slips_186 hl (k := 13) rfl rfl (by decide) rfl (fun ls hl => ?_)
            refine lv_goto (tgt := 82) hx hb dX5_slips_189 (by decide) ?_
            exact ih _ _ _ _ _ _ h _ _ hP hD hS ls (lv_sub hl [5, 6, 7, 8, 9, 10, 11, 12, 13, 3, 2, 1, 0] rfl)
  refine lv_iload_n hx hb dX5_slips_0 rfl (lv_at hl 1 rfl) ?_
  refine lv_iload_n hx hb dX5_slips_1 rfl (lv_at hl 2 rfl) ?_
  refine lv_iload_n hx hb dX5_slips_2 rfl (lv_at hl 3 rfl) ?_
  refine lv_iload hx hb dX5_slips_3 (lv_at hl 4 rfl) ?_
  refine lv_iconst (v := 0) hx hb dX5_slips_5 (by decide) ?_
  refine cl_Si (rn_S (rest := []) hx hb hml hown hT hl.1 ck_X5_125 (c_X5_isPrint l x1 x2 x3 x4 0 _ h) ⟨rfl, rfl, (Nat.le_of_ble_eq_true rfl), (Nat.le_of_ble_eq_true rfl)⟩ ⟨Nat.zero_le _, Nat.zero_le _⟩ rfl rfl (Nat.le_of_ble_eq_true rfl) dX5_slips_6) (fun r1 h => ?_)
  refine lv_if_eq (tgt := 51) hx hb dX5_slips_9 (by decide) (fun ct => ?_) (fun ct => ?_)
  · have h := h.1 ct
    refine lv_aload_n hx hb dX5_slips_51 rfl (lv_at hl 0 rfl) ?_
    refine wi_allM (rn_V (rest := []) (ci := 3) hx hb hml hown hT hl.1 hC hS hP hD 0 rfl rfl rfl ck_X5_110 (c_X5_bad l G cs ts a H.size M L  _ h) ⟨rfl, rfl, (Nat.le_of_ble_eq_true rfl), (Nat.le_of_ble_eq_true rfl)⟩ ⟨Nat.le_refl _, Nat.le_refl _⟩ rfl rfl (Nat.le_of_ble_eq_true rfl) dX5_slips_52) hD hS hA (fun r2 M3 L4 H locs hP hD hS h => ?_)
    exact rt_Wi hx hb hr hlk dX5_slips_55 (M3, L4) hP hD hS h
  · have h := h.2 ct
    refine lv_iload hx hb dX5_slips_12 (lv_at hl 5 rfl) ?_
    refine lv_i2l (v := x5.toInt64) hx hb dX5_slips_14 rfl ?_
    refine lv_lconst (v := 0) hx hb dX5_slips_15 (by decide) ?_
    refine ki_X5_60 hx hb hT hown dX5_slips_16 ?_
    refine cl_Si (rn_S (rest := []) hx hb hml hown hT hl.1 ck_X5_54 (c_X5_in l x5.toInt64 0 5 _ h) ⟨rfl, rfl, (Nat.le_of_ble_eq_true rfl), (Nat.le_of_ble_eq_true rfl)⟩ ⟨Nat.zero_le _, Nat.zero_le _⟩ rfl rfl (Nat.le_of_ble_eq_true rfl) dX5_slips_19) (fun r5 h => ?_)
    refine lv_if_eq (tgt := 51) hx hb dX5_slips_22 (by decide) (fun ct => ?_) (fun ct => ?_)
    · have h := h.1 ct
      refine lv_aload_n hx hb dX5_slips_51 rfl (lv_at hl 0 rfl) ?_
      refine wi_allM (rn_V (rest := []) (ci := 3) hx hb hml hown hT hl.1 hC hS hP hD 0 rfl rfl rfl ck_X5_110 (c_X5_bad l G cs ts a H.size M L  _ h) ⟨rfl, rfl, (Nat.le_of_ble_eq_true rfl), (Nat.le_of_ble_eq_true rfl)⟩ ⟨Nat.le_refl _, Nat.le_refl _⟩ rfl rfl (Nat.le_of_ble_eq_true rfl) dX5_slips_52) hD hS hA (fun r6 M7 L8 H locs hP hD hS h => ?_)
      exact rt_Wi hx hb hr hlk dX5_slips_55 (M7, L8) hP hD hS h
    · have h := h.2 ct
      refine lv_iload hx hb dX5_slips_25 (lv_at hl 6 rfl) ?_
      refine lv_i2l (v := x6.toInt64) hx hb dX5_slips_27 rfl ?_
      refine lv_lconst (v := 0) hx hb dX5_slips_28 (by decide) ?_
      refine ki_X5_222 hx hb hT hown dX5_slips_29 ?_
      refine cl_Si (rn_S (rest := []) hx hb hml hown hT hl.1 ck_X5_54 (c_X5_in l x6.toInt64 0 10 _ h) ⟨rfl, rfl, (Nat.le_of_ble_eq_true rfl), (Nat.le_of_ble_eq_true rfl)⟩ ⟨Nat.zero_le _, Nat.zero_le _⟩ rfl rfl (Nat.le_of_ble_eq_true rfl) dX5_slips_32) (fun r9 h => ?_)
      refine lv_if_eq (tgt := 51) hx hb dX5_slips_35 (by decide) (fun ct => ?_) (fun ct => ?_)
      · have h := h.1 ct
        refine lv_aload_n hx hb dX5_slips_51 rfl (lv_at hl 0 rfl) ?_
        refine wi_allM (rn_V (rest := []) (ci := 3) hx hb hml hown hT hl.1 hC hS hP hD 0 rfl rfl rfl ck_X5_110 (c_X5_bad l G cs ts a H.size M L  _ h) ⟨rfl, rfl, (Nat.le_of_ble_eq_true rfl), (Nat.le_of_ble_eq_true rfl)⟩ ⟨Nat.le_refl _, Nat.le_refl _⟩ rfl rfl (Nat.le_of_ble_eq_true rfl) dX5_slips_52) hD hS hA (fun r10 M11 L12 H locs hP hD hS h => ?_)
        exact rt_Wi hx hb hr hlk dX5_slips_55 (M11, L12) hP hD hS h
      · have h := h.2 ct
        refine lv_iload hx hb dX5_slips_38 (lv_at hl 7 rfl) ?_
        refine lv_i2l (v := x7.toInt64) hx hb dX5_slips_40 rfl ?_
        refine lv_lconst (v := 0) hx hb dX5_slips_41 (by decide) ?_
        refine ki_X5_224 hx hb hT hown dX5_slips_42 ?_
        refine cl_Si (rn_S (rest := []) hx hb hml hown hT hl.1 ck_X5_54 (c_X5_in l x7.toInt64 0 63 _ h) ⟨rfl, rfl, (Nat.le_of_ble_eq_true rfl), (Nat.le_of_ble_eq_true rfl)⟩ ⟨Nat.zero_le _, Nat.zero_le _⟩ rfl rfl (Nat.le_of_ble_eq_true rfl) dX5_slips_45) (fun r13 h => ?_)
        refine lv_if_ne (tgt := 56) hx hb dX5_slips_48 (by decide) (fun ct => ?_) (fun ct => ?_)
        · have h := h.1 ct
          refine lv_aload_n hx hb dX5_slips_56 rfl (lv_at hl 0 rfl) ?_
          refine lv_iload_n hx hb dX5_slips_57 rfl (lv_at hl 2 rfl) ?_
          refine lv_iconst (v := 0) hx hb dX5_slips_58 (by decide) ?_
          refine wi_allM (rn_V (rest := []) (ci := 3) hx hb hml hown hT hl.1 hC hS hP hD 0 rfl rfl rfl ck_X5_90 (c_X5_looksOf l G cs ts a H.size M L x2 0 _ h) ⟨rfl, rfl, (Nat.le_of_ble_eq_true rfl), (Nat.le_of_ble_eq_true rfl)⟩ ⟨Nat.le_refl _, Nat.le_refl _⟩ rfl rfl (Nat.le_of_ble_eq_true rfl) dX5_slips_59) hD hS hA (fun r14 M15 L16 H locs hP hD hS h => ?_)
          refine lv_istore (lv' := [(8, .int r14), (0, .ref (a 99)), (1, .int x1), (2, .int x2), (3, .int x3), (4, .int x4), (5, .int x5), (6, .int x6), (7, .int x7)]) hx hb dX5_slips_62 hl (by decide) rfl (fun ls hl => ?_)
          refine lv_lconst (v := 1) hx hb dX5_slips_64 (by decide) ?_
          refine lv_lstore (lv' := [(9, .long 1), (8, .int r14), (0, .ref (a 99)), (1, .int x1), (2, .int x2), (3, .int x3), (4, .int x4), (5, .int x5), (6, .int x6), (7, .int x7)]) hx hb dX5_slips_65 hl (by decide) rfl (fun ls hl => ?_)
          refine lv_lconst (v := 1) hx hb dX5_slips_67 (by decide) ?_
          refine lv_lstore (lv' := [(11, .long 1), (9, .long 1), (8, .int r14), (0, .ref (a 99)), (1, .int x1), (2, .int x2), (3, .int x3), (4, .int x4), (5, .int x5), (6, .int x6), (7, .int x7)]) hx hb dX5_slips_68 hl (by decide) rfl (fun ls hl => ?_)
          refine lv_aload_n hx hb dX5_slips_70 rfl (lv_at hl 3 rfl) ?_
          refine gf_X5_7 hx hb hT hown hK hP 0 rfl rfl dX5_slips_71 ?_
          refine lv_bipush (v := 64) hx hb dX5_slips_74 (by decide) ?_
          have hi : vp_in 64 99 := by unfold vp_in; decide
          refine va_iald hx hb hK hP 1 0 rfl rfl hi dX5_slips_76 ?_
          refine lv_topi (fun v17 ev17 => ?_)
          have h := h v17 ev17
          refine lv_istore (lv' := [(13, .int v17), (11, .long 1), (9, .long 1), (8, .int r14), (0, .ref (a 99)), (1, .int x1), (2, .int x2), (3, .int x3), (4, .int x4), (5, .int x5), (6, .int x6), (7, .int x7)]) hx hb dX5_slips_77 hl (by decide) rfl (fun ls hl => ?_)
          refine lv_iconst (v := 0) hx hb dX5_slips_79 (by decide) ?_
          refine lv_istore (lv' := [(14, .int 0), (13, .int v17), (11, .long 1), (9, .long 1), (8, .int r14), (0, .ref (a 99)), (1, .int x1), (2, .int x2), (3, .int x3), (4, .int x4), (5, .int x5), (6, .int x6), (7, .int x7)]) hx hb dX5_slips_80 hl (by decide) rfl (fun ls hl => ?_)
          obtain ⟨n53, h⟩ := h
          refine HL82 _ _ _ _ _ _ _ _ _ (fun M45 L46 v47 v48 v49 v50 h H locs hP hD hS ls hl => ?_) n53 _ _ _ _ _ _ h _ _ hP hD hS ls (lv_sub hl [5, 6, 7, 8, 9, 10, 11, 12, 4, 3, 2, 1, 0] rfl)
          refine lv_aload_n hx hb dX5_slips_192 rfl (lv_at hl 0 rfl) ?_
          refine lv_lload hx hb dX5_slips_193 (lv_at hl 10 rfl) ?_
          refine lv_lload hx hb dX5_slips_195 (lv_at hl 9 rfl) ?_
          refine lv_lsub hx hb dX5_slips_197 ?_
          refine lv_lload hx hb dX5_slips_198 (lv_at hl 10 rfl) ?_
          refine wv_allM (rn_V (rest := []) (ci := 3) hx hb hml hown hT hl.1 hC hS hP hD 0 rfl rfl rfl ck_X5_226 (c_X5_setFraction l G cs ts a H.size M45 L46 (v48 - v47) v48 _ h) ⟨rfl, rfl, (Nat.le_of_ble_eq_true rfl), (Nat.le_of_ble_eq_true rfl)⟩ ⟨Nat.le_refl _, Nat.le_refl _⟩ rfl rfl (Nat.le_of_ble_eq_true rfl) dX5_slips_200) hD hS hA (fun M51 L52 H locs hP hD hS h => ?_)
          refine lv_iconst (v := 1) hx hb dX5_slips_203 (by decide) ?_
          exact rt_Wi hx hb hr hlk dX5_slips_204 (M51, L52) hP hD hS h
        · have h := h.2 ct
          refine lv_aload_n hx hb dX5_slips_51 rfl (lv_at hl 0 rfl) ?_
          refine wi_allM (rn_V (rest := []) (ci := 3) hx hb hml hown hT hl.1 hC hS hP hD 0 rfl rfl rfl ck_X5_110 (c_X5_bad l G cs ts a H.size M L  _ h) ⟨rfl, rfl, (Nat.le_of_ble_eq_true rfl), (Nat.le_of_ble_eq_true rfl)⟩ ⟨Nat.le_refl _, Nat.le_refl _⟩ rfl rfl (Nat.le_of_ble_eq_true rfl) dX5_slips_52) hD hS hA (fun r54 M55 L56 H locs hP hD hS h => ?_)
          exact rt_Wi hx hb hr hlk dX5_slips_55 (M55, L56) hP hD hS h
abbrev rm_X5_draw : Room := { frames := 0, cells := 0, slots := 0, locals := 0 }
set_option maxRecDepth 100000 in
set_option maxHeartbeats 4000000 in
theorem c_X5_draw (l : Launch) (G : va_G) (cs ts : Nat → Nat) (a : Nat → Nat) (sz : Nat)  (M : ZI) (L : ZL)   (x1 : Int32) (post : Int32 → ZI → ZL → Prop) (h : w_X5_draw M L x1 post) : Met l yX5_draw [.code yX5_draw cX5_draw 2 (some .int)] rm_X5_draw (va_Pc [.ref (a 99), .int x1] (CP G cs ts (mdW a cs M L) sz)) (va_Qi (fun (r : Int32) (u : ZI × ZL) => post r u.1 u.2) (CB G (va_A (mdW a cs M L) sz) (fun u => (mdW a cs u.1 u.2))) (va_A (mdW a cs M L) sz)) 0 0 (va_A (mdW a cs M L) sz) := by
  refine ax_W (Qc := fun A => va_Qi (fun (r : Int32) (u : ZI × ZL) => post r u.1 u.2) (CB G A (fun u => (mdW a cs u.1 u.2))) A) (by decide) (Nat.le_of_ble_eq_true rfl) sz ?_
  intro p e s m args below meth c A hx hb hr hlk hml hown hT hC hnm H locs hP hD hS ls hl
  have hK := hC.2.1
  have hA := hC.2.2
  have hl : lv_has ls 2 [(0, .ref (a 99)), (1, .int x1)] := hl
  unfold w_X5_draw at h
  refine lv_aload_n hx hb dX5_draw_0 rfl (lv_at hl 0 rfl) ?_
  refine lv_aload_n hx hb dX5_draw_1 rfl (lv_at hl 0 rfl) ?_
  refine gf_X5_230 hx hb hT hown hK hP 0 rfl rfl dX5_draw_2 ?_
  refine ki_X5_233 hx hb hT hown dX5_draw_5 ?_
  refine lv_lmul hx hb dX5_draw_8 ?_
  refine ki_X5_235 hx hb hT hown dX5_draw_9 ?_
  refine lv_ladd hx hb dX5_draw_12 ?_
  refine ki_X5_237 hx hb hT hown dX5_draw_13 ?_
  refine lv_lrem hx hb dX5_draw_16 (by decide) ?_
  refine pf_X5_230 hx hb hT hown hK hP hD hS 0 rfl (Nat.le_of_ble_eq_true rfl) dX5_draw_17 (fun H locs hP hD hS => ?_)
  obtain ⟨L1, eL1⟩ : ∃ z : ZL, z = ml L 17 0 (jlrem (((L 17 0) * 1103515245) + 12345) 2147483648) := ⟨_, rfl⟩
  have h := h L1 eL1
  have hP : va_P G vwCl (mdW a cs M L1) H := by rw [eL1]; exact hP
  have hD : va_D A (mdW a cs M L1) := by rw [eL1]; exact hD
  refine lv_aload_n hx hb dX5_draw_20 rfl (lv_at hl 0 rfl) ?_
  refine gf_X5_230 hx hb hT hown hK hP 0 rfl rfl dX5_draw_21 ?_
  refine ki_X5_239 hx hb hT hown dX5_draw_24 ?_
  refine lv_ldiv hx hb dX5_draw_27 (by decide) ?_
  refine lv_iload_n hx hb dX5_draw_28 rfl (lv_at hl 1 rfl) ?_
  refine lv_i2l (v := x1.toInt64) hx hb dX5_draw_29 rfl ?_
  obtain ⟨hi, h⟩ := h
  refine lv_lrem hx hb dX5_draw_30 hi ?_
  refine lv_l2i (v := (jlrem ((L1 17 0) / 65536) x1.toInt64).toInt32) hx hb dX5_draw_31 rfl ?_
  exact rt_Wi hx hb hr hlk dX5_draw_32 (M, L1) hP hD hS h
abbrev rm_X5_sheets : Room := { frames := 5, cells := 0, slots := 0, locals := 129 }
set_option maxRecDepth 100000 in
set_option maxHeartbeats 4000000 in
theorem c_X5_sheets (l : Launch) (G : va_G) (cs ts : Nat → Nat) (a : Nat → Nat) (sz : Nat)  (M : ZI) (L : ZL)   (x1 : Int32) (x2 : Int32) (post : Int32 → ZI → ZL → Prop) (h : w_X5_sheets M L x1 x2 post) : Met l yX5_sheets [.code yX5_sheets cX5_sheets 8 (some .int)] rm_X5_sheets (va_Pc [.ref (a 99), .int x1, .int x2] (CP G cs ts (mdW a cs M L) sz)) (va_Qi (fun (r : Int32) (u : ZI × ZL) => post r u.1 u.2) (CB G (va_A (mdW a cs M L) sz) (fun u => (mdW a cs u.1 u.2))) (va_A (mdW a cs M L) sz)) 0 0 (va_A (mdW a cs M L) sz) := by
  refine ax_W (Qc := fun A => va_Qi (fun (r : Int32) (u : ZI × ZL) => post r u.1 u.2) (CB G A (fun u => (mdW a cs u.1 u.2))) A) (by decide) (Nat.le_of_ble_eq_true rfl) sz ?_
  intro p e s m args below meth c A hx hb hr hlk hml hown hT hC hnm H locs hP hD hS ls hl
  have hK := hC.2.1
  have hA := hC.2.2
  have hl : lv_has ls 8 [(0, .ref (a 99)), (1, .int x1), (2, .int x2)] := hl
  unfold w_X5_sheets at h
  have HL31 : ∀ (Lf : ZL) (z1 : Int32) (z2 : Int32) (K : ZI → Int32 → Prop), (∀ (Mv : ZI) (y3 : Int32), K Mv y3 → ∀ (H : Heap) (locs : List Loc), va_P G vwCl (mdW a cs Mv Lf) H → va_D A (mdW a cs Mv Lf) → va_S A s.heap H locs → ∀ ls : Array Slot, lv_has ls 8 [(0, .ref (a 99)), (1, .int z1), (2, .int z2), (3, .int y3)] → W p l e rm_X5_sheets s m args below meth c H locs 0 0 (MQ below (va_Qi (fun (r : Int32) (u : ZI × ZL) => post r u.1 u.2) (CB G A (fun u => (mdW a cs u.1 u.2))) A) args s 0 0 A) (F0 m 55 ls [])) → ∀ (n : Nat) (Mv : ZI) (y3 : Int32), itF (w_X5_sheets_L31 Lf z1 z2 post K) (fun _ _ => False) n Mv y3 → ∀ (H : Heap) (locs : List Loc), va_P G vwCl (mdW a cs Mv Lf) H → va_D A (mdW a cs Mv Lf) → va_S A s.heap H locs → ∀ ls : Array Slot, lv_has ls 8 [(0, .ref (a 99)), (1, .int z1), (2, .int z2), (3, .int y3)] → W p l e rm_X5_sheets s m args below meth c H locs 0 0 (MQ below (va_Qi (fun (r : Int32) (u : ZI × ZL) => post r u.1 u.2) (CB G A (fun u => (mdW a cs u.1 u.2))) A) args s 0 0 A) (F0 m 31 ls []) := by
    intro Lf z1 z2 K hKK n
    induction n with
    | zero =>
      intro Mv y3 h
      exact absurd h id
    | succ n ih =>
      intro Mv y3 h H locs hP hD hS ls hl
      have h : w_X5_sheets_L31 Lf z1 z2 post K (itF (w_X5_sheets_L31 Lf z1 z2 post K) (fun _ _ => False) n) Mv y3 := h
      generalize itF (w_X5_sheets_L31 Lf z1 z2 post K) (fun _ _ => False) n = rec at h ih
      unfold w_X5_sheets_L31 at h
      refine lv_iload_n hx hb dX5_sheets_31 rfl (lv_at hl 3 rfl) ?_
      refine lv_bipush (v := 99) hx hb dX5_sheets_32 (by decide) ?_
      refine lv_icmp_ge (tgt := 55) hx hb dX5_sheets_34 (by decide) (fun ct => ?_) (fun ct => ?_)
      · have h := h.1 ct
        exact hKK _ _ h _ _ hP hD hS ls (lv_sub hl [0, 1, 2, 3] rfl)
      · have h := h.2 ct
        refine lv_aload_n hx hb dX5_sheets_37 rfl (lv_at hl 0 rfl) ?_
        refine gf_X5_38 hx hb hT hown hK hP 0 rfl rfl dX5_sheets_38 ?_
        refine lv_iload_n hx hb dX5_sheets_41 rfl (lv_at hl 3 rfl) ?_
        refine lv_aload_n hx hb dX5_sheets_42 rfl (lv_at hl 0 rfl) ?_
        refine gf_X5_7 hx hb hT hown hK hP 0 rfl rfl dX5_sheets_43 ?_
        refine lv_iload_n hx hb dX5_sheets_46 rfl (lv_at hl 3 rfl) ?_
        obtain ⟨hi, h⟩ := h
        refine va_iald hx hb hK hP 1 0 rfl rfl hi dX5_sheets_47 ?_
        obtain ⟨hi, h⟩ := h
        refine va_iast hx hb hK hP hD hS 9 0 rfl rfl hi dX5_sheets_48 (fun H locs hP hD hS => ?_)
        obtain ⟨M6, eM6⟩ : ∃ z : ZI, z = mu Mv 16 y3.toNatClampNeg (Mv 0 y3.toNatClampNeg) := ⟨_, rfl⟩
        have h := h M6 eM6
        have hP : va_P G vwCl (mdW a cs M6 Lf) H := by rw [eM6]; exact hP
        have hD : va_D A (mdW a cs M6 Lf) := by rw [eM6]; exact hD
        refine lv_iinc (v := y3 + 1) (lv' := [(3, .int (y3 + 1)), (0, .ref (a 99)), (1, .int z1), (2, .int z2)]) hx hb dX5_sheets_49 hl (k := 3) rfl rfl (by decide) rfl (fun ls hl => ?_)
        refine lv_goto (tgt := 31) hx hb dX5_sheets_52 (by decide) ?_
        exact ih _ _ h _ _ hP hD hS ls (lv_sub hl [1, 2, 3, 0] rfl)
  have HL63 : ∀  (z1 : Int32) (z2 : Int32) (K : ZI → ZL → Int32 → Prop), (∀ (Mv : ZI) (Lv : ZL) (y3 : Int32), K Mv Lv y3 → ∀ (H : Heap) (locs : List Loc), va_P G vwCl (mdW a cs Mv Lv) H → va_D A (mdW a cs Mv Lv) → va_S A s.heap H locs → ∀ ls : Array Slot, lv_has ls 8 [(0, .ref (a 99)), (1, .int z1), (2, .int z2), (3, .int y3)] → W p l e rm_X5_sheets s m args below meth c H locs 0 0 (MQ below (va_Qi (fun (r : Int32) (u : ZI × ZL) => post r u.1 u.2) (CB G A (fun u => (mdW a cs u.1 u.2))) A) args s 0 0 A) (F0 m 154 ls [])) → ∀ (n : Nat) (Mv : ZI) (Lv : ZL) (y3 : Int32), itF (w_X5_sheets_L63 z1 z2 post K) (fun _ _ _ => False) n Mv Lv y3 → ∀ (H : Heap) (locs : List Loc), va_P G vwCl (mdW a cs Mv Lv) H → va_D A (mdW a cs Mv Lv) → va_S A s.heap H locs → ∀ ls : Array Slot, lv_has ls 8 [(0, .ref (a 99)), (1, .int z1), (2, .int z2), (3, .int y3)] → W p l e rm_X5_sheets s m args below meth c H locs 0 0 (MQ below (va_Qi (fun (r : Int32) (u : ZI × ZL) => post r u.1 u.2) (CB G A (fun u => (mdW a cs u.1 u.2))) A) args s 0 0 A) (F0 m 63 ls []) := by
    intro z1 z2 K hKK n
    induction n with
    | zero =>
      intro Mv Lv y3 h
      exact absurd h id
    | succ n ih =>
      intro Mv Lv y3 h H locs hP hD hS ls hl
      have h : w_X5_sheets_L63 z1 z2 post K (itF (w_X5_sheets_L63 z1 z2 post K) (fun _ _ _ => False) n) Mv Lv y3 := h
      generalize itF (w_X5_sheets_L63 z1 z2 post K) (fun _ _ _ => False) n = rec at h ih
      unfold w_X5_sheets_L63 at h
      refine lv_iload_n hx hb dX5_sheets_63 rfl (lv_at hl 3 rfl) ?_
      refine lv_iload_n hx hb dX5_sheets_64 rfl (lv_at hl 2 rfl) ?_
      refine lv_icmp_ge (tgt := 154) hx hb dX5_sheets_65 (by decide) (fun ct => ?_) (fun ct => ?_)
      · have h := h.1 ct
        exact hKK _ _ _ h _ _ hP hD hS ls (lv_sub hl [0, 1, 2, 3] rfl)
      · have h := h.2 ct
        refine lv_aload_n hx hb dX5_sheets_68 rfl (lv_at hl 0 rfl) ?_
        refine lv_bipush (v := 6) hx hb dX5_sheets_69 (by decide) ?_
        refine wi_allM (rn_V (rest := []) (ci := 3) hx hb hml hown hT hl.1 hC hS hP hD 0 rfl rfl rfl ck_X5_245 (c_X5_draw l G cs ts a H.size Mv Lv 6 _ h) ⟨rfl, rfl, (Nat.le_of_ble_eq_true rfl), (Nat.le_of_ble_eq_true rfl)⟩ ⟨Nat.le_refl _, Nat.le_refl _⟩ rfl rfl (Nat.le_of_ble_eq_true rfl) dX5_sheets_71) hD hS hA (fun r10 M11 L12 H locs hP hD hS h => ?_)
        refine lv_istore (lv' := [(4, .int r10), (0, .ref (a 99)), (1, .int z1), (2, .int z2), (3, .int y3)]) hx hb dX5_sheets_74 hl (by decide) rfl (fun ls hl => ?_)
        refine lv_aload_n hx hb dX5_sheets_76 rfl (lv_at hl 1 rfl) ?_
        refine lv_iconst (v := 2) hx hb dX5_sheets_77 (by decide) ?_
        refine wi_allM (rn_V (rest := []) (ci := 3) hx hb hml hown hT hl.1 hC hS hP hD 0 rfl rfl rfl ck_X5_245 (c_X5_draw l G cs ts a H.size M11 L12 2 _ h) ⟨rfl, rfl, (Nat.le_of_ble_eq_true rfl), (Nat.le_of_ble_eq_true rfl)⟩ ⟨Nat.le_refl _, Nat.le_refl _⟩ rfl rfl (Nat.le_of_ble_eq_true rfl) dX5_sheets_78) hD hS hA (fun r13 M14 L15 H locs hP hD hS h => ?_)
        refine lv_istore (lv' := [(5, .int r13), (4, .int r10), (0, .ref (a 99)), (1, .int z1), (2, .int z2), (3, .int y3)]) hx hb dX5_sheets_81 hl (by decide) rfl (fun ls hl => ?_)
        refine lv_aload_n hx hb dX5_sheets_83 rfl (lv_at hl 2 rfl) ?_
        refine lv_bipush (v := 64) hx hb dX5_sheets_84 (by decide) ?_
        refine wi_allM (rn_V (rest := []) (ci := 3) hx hb hml hown hT hl.1 hC hS hP hD 0 rfl rfl rfl ck_X5_245 (c_X5_draw l G cs ts a H.size M14 L15 64 _ h) ⟨rfl, rfl, (Nat.le_of_ble_eq_true rfl), (Nat.le_of_ble_eq_true rfl)⟩ ⟨Nat.le_refl _, Nat.le_refl _⟩ rfl rfl (Nat.le_of_ble_eq_true rfl) dX5_sheets_86) hD hS hA (fun r16 M17 L18 H locs hP hD hS h => ?_)
        refine lv_istore (lv' := [(6, .int r16), (5, .int r13), (4, .int r10), (0, .ref (a 99)), (1, .int z1), (2, .int z2), (3, .int y3)]) hx hb dX5_sheets_89 hl (by decide) rfl (fun ls hl => ?_)
        refine lv_aload_n hx hb dX5_sheets_91 rfl (lv_at hl 3 rfl) ?_
        refine lv_iconst (v := 4) hx hb dX5_sheets_92 (by decide) ?_
        refine wi_allM (rn_V (rest := []) (ci := 3) hx hb hml hown hT hl.1 hC hS hP hD 0 rfl rfl rfl ck_X5_245 (c_X5_draw l G cs ts a H.size M17 L18 4 _ h) ⟨rfl, rfl, (Nat.le_of_ble_eq_true rfl), (Nat.le_of_ble_eq_true rfl)⟩ ⟨Nat.le_refl _, Nat.le_refl _⟩ rfl rfl (Nat.le_of_ble_eq_true rfl) dX5_sheets_93) hD hS hA (fun r19 M20 L21 H locs hP hD hS h => ?_)
        refine lv_istore (lv' := [(7, .int r19), (6, .int r16), (5, .int r13), (4, .int r10), (0, .ref (a 99)), (1, .int z1), (2, .int z2), (3, .int y3)]) hx hb dX5_sheets_96 hl (by decide) rfl (fun ls hl => ?_)
        refine lv_aload_n hx hb dX5_sheets_98 rfl (lv_at hl 4 rfl) ?_
        refine gf_X5_7 hx hb hT hown hK hP 0 rfl rfl dX5_sheets_99 ?_
        refine lv_bipush (v := 64) hx hb dX5_sheets_102 (by decide) ?_
        refine lv_aload_n hx hb dX5_sheets_104 rfl (lv_at hl 4 rfl) ?_
        refine gf_X5_7 hx hb hT hown hK hP 0 rfl rfl dX5_sheets_105 ?_
        refine lv_bipush (v := 64) hx hb dX5_sheets_108 (by decide) ?_
        have hi : vp_in 64 99 := by unfold vp_in; decide
        refine va_iald hx hb hK hP 1 0 rfl rfl hi dX5_sheets_110 ?_
        refine lv_if_ne (tgt := 119) hx hb dX5_sheets_111 (by decide) (fun ct => ?_) (fun ct => ?_)
        · have h := h.1 ct
          refine lv_aload_n hx hb dX5_sheets_119 rfl (lv_at hl 4 rfl) ?_
          refine gf_X5_7 hx hb hT hown hK hP 0 rfl rfl dX5_sheets_120 ?_
          refine lv_bipush (v := 64) hx hb dX5_sheets_123 (by decide) ?_
          have hi : vp_in 64 99 := by unfold vp_in; decide
          refine va_iald hx hb hK hP 1 0 rfl rfl hi dX5_sheets_125 ?_
          have hi : vp_in 64 99 := by unfold vp_in; decide
          refine va_iast hx hb hK hP hD hS 1 0 rfl rfl hi dX5_sheets_126 (fun H locs hP hD hS => ?_)
          obtain ⟨M22, eM22⟩ : ∃ z : ZI, z = mu M20 0 64 (M20 0 64) := ⟨_, rfl⟩
          have h := h M22 eM22
          have hP : va_P G vwCl (mdW a cs M22 L21) H := by rw [eM22]; exact hP
          have hD : va_D A (mdW a cs M22 L21) := by rw [eM22]; exact hD
          refine lv_aload_n hx hb dX5_sheets_127 rfl (lv_at hl 4 rfl) ?_
          refine lv_iload hx hb dX5_sheets_128 (lv_at hl 3 rfl) ?_
          refine lv_iload hx hb dX5_sheets_130 (lv_at hl 2 rfl) ?_
          refine lv_iload hx hb dX5_sheets_132 (lv_at hl 1 rfl) ?_
          refine lv_bipush (v := 8) hx hb dX5_sheets_134 (by decide) ?_
          refine lv_irem hx hb dX5_sheets_136 (by decide) ?_
          refine lv_iload hx hb dX5_sheets_137 (lv_at hl 1 rfl) ?_
          refine lv_bipush (v := 8) hx hb dX5_sheets_139 (by decide) ?_
          refine lv_idiv hx hb dX5_sheets_141 (by decide) ?_
          refine lv_iload hx hb dX5_sheets_142 (lv_at hl 0 rfl) ?_
          refine wi_allM (rn_V (rest := []) (ci := 3) hx hb hml hown hT hl.1 hC hS hP hD 0 rfl rfl rfl ck_X5_132 (c_X5_printOne l G cs ts a H.size M22 L21 r10 r13 (jrem r16 8) (r16 / 8) r19 _ h) ⟨rfl, rfl, (Nat.le_of_ble_eq_true rfl), (Nat.le_of_ble_eq_true rfl)⟩ ⟨Nat.le_refl _, Nat.le_refl _⟩ rfl rfl (Nat.le_of_ble_eq_true rfl) dX5_sheets_144) hD hS hA (fun r23 M24 L25 H locs hP hD hS h => ?_)
          refine lv_pop hx hb dX5_sheets_147 rfl ?_
          refine lv_iinc (v := y3 + 1) (lv' := [(3, .int (y3 + 1)), (7, .int r19), (6, .int r16), (5, .int r13), (4, .int r10), (0, .ref (a 99)), (1, .int z1), (2, .int z2)]) hx hb dX5_sheets_148 hl (k := 7) rfl rfl (by decide) rfl (fun ls hl => ?_)
          refine lv_goto (tgt := 63) hx hb dX5_sheets_151 (by decide) ?_
          exact ih _ _ _ h _ _ hP hD hS ls (lv_sub hl [5, 6, 7, 0] rfl)
        · have h := h.2 ct
          refine lv_bipush (v := 12) hx hb dX5_sheets_114 (by decide) ?_
          refine lv_goto (tgt := 126) hx hb dX5_sheets_116 (by decide) ?_
          have hi : vp_in 64 99 := by unfold vp_in; decide
          refine va_iast hx hb hK hP hD hS 1 0 rfl rfl hi dX5_sheets_126 (fun H locs hP hD hS => ?_)
          obtain ⟨M26, eM26⟩ : ∃ z : ZI, z = mu M20 0 64 12 := ⟨_, rfl⟩
          have h := h M26 eM26
          have hP : va_P G vwCl (mdW a cs M26 L21) H := by rw [eM26]; exact hP
          have hD : va_D A (mdW a cs M26 L21) := by rw [eM26]; exact hD
          refine lv_aload_n hx hb dX5_sheets_127 rfl (lv_at hl 4 rfl) ?_
          refine lv_iload hx hb dX5_sheets_128 (lv_at hl 3 rfl) ?_
          refine lv_iload hx hb dX5_sheets_130 (lv_at hl 2 rfl) ?_
          refine lv_iload hx hb dX5_sheets_132 (lv_at hl 1 rfl) ?_
          refine lv_bipush (v := 8) hx hb dX5_sheets_134 (by decide) ?_
          refine lv_irem hx hb dX5_sheets_136 (by decide) ?_
          refine lv_iload hx hb dX5_sheets_137 (lv_at hl 1 rfl) ?_
          refine lv_bipush (v := 8) hx hb dX5_sheets_139 (by decide) ?_
          refine lv_idiv hx hb dX5_sheets_141 (by decide) ?_
          refine lv_iload hx hb dX5_sheets_142 (lv_at hl 0 rfl) ?_
          refine wi_allM (rn_V (rest := []) (ci := 3) hx hb hml hown hT hl.1 hC hS hP hD 0 rfl rfl rfl ck_X5_132 (c_X5_printOne l G cs ts a H.size M26 L21 r10 r13 (jrem r16 8) (r16 / 8) r19 _ h) ⟨rfl, rfl, (Nat.le_of_ble_eq_true rfl), (Nat.le_of_ble_eq_true rfl)⟩ ⟨Nat.le_refl _, Nat.le_refl _⟩ rfl rfl (Nat.le_of_ble_eq_true rfl) dX5_sheets_144) hD hS hA (fun r27 M28 L29 H locs hP hD hS h => ?_)
          refine lv_pop hx hb dX5_sheets_147 rfl ?_
          refine lv_iinc (v := y3 + 1) (lv' := [(3, .int (y3 + 1)), (7, .int r19), (6, .int r16), (5, .int r13), (4, .int r10), (0, .ref (a 99)), (1, .int z1), (2, .int z2)]) hx hb dX5_sheets_148 hl (k := 7) rfl rfl (by decide) rfl (fun ls hl => ?_)
          refine lv_goto (tgt := 63) hx hb dX5_sheets_151 (by decide) ?_
          exact ih _ _ _ h _ _ hP hD hS ls (lv_sub hl [5, 6, 7, 0] rfl)
  have HL159 : ∀ (Mf : ZI) (Lf : ZL) (z1 : Int32) (z2 : Int32) (K : Int32 → Int32 → Prop), (∀  (y3 : Int32) (y4 : Int32), K y3 y4 → ∀ (H : Heap) (locs : List Loc), va_P G vwCl (mdW a cs Mf Lf) H → va_D A (mdW a cs Mf Lf) → va_S A s.heap H locs → ∀ ls : Array Slot, lv_has ls 8 [(0, .ref (a 99)), (1, .int z1), (2, .int z2), (3, .int y3), (4, .int y4)] → W p l e rm_X5_sheets s m args below meth c H locs 0 0 (MQ below (va_Qi (fun (r : Int32) (u : ZI × ZL) => post r u.1 u.2) (CB G A (fun u => (mdW a cs u.1 u.2))) A) args s 0 0 A) (F0 m 184 ls [])) → ∀ (n : Nat)  (y3 : Int32) (y4 : Int32), itF (w_X5_sheets_L159 Mf Lf z1 z2 post K) (fun _ _ => False) n y3 y4 → ∀ (H : Heap) (locs : List Loc), va_P G vwCl (mdW a cs Mf Lf) H → va_D A (mdW a cs Mf Lf) → va_S A s.heap H locs → ∀ ls : Array Slot, lv_has ls 8 [(0, .ref (a 99)), (1, .int z1), (2, .int z2), (3, .int y3), (4, .int y4)] → W p l e rm_X5_sheets s m args below meth c H locs 0 0 (MQ below (va_Qi (fun (r : Int32) (u : ZI × ZL) => post r u.1 u.2) (CB G A (fun u => (mdW a cs u.1 u.2))) A) args s 0 0 A) (F0 m 159 ls []) := by
    intro Mf Lf z1 z2 K hKK n
    induction n with
    | zero =>
      intro y3 y4 h
      exact absurd h id
    | succ n ih =>
      intro y3 y4 h H locs hP hD hS ls hl
      have h : w_X5_sheets_L159 Mf Lf z1 z2 post K (itF (w_X5_sheets_L159 Mf Lf z1 z2 post K) (fun _ _ => False) n) y3 y4 := h
      generalize itF (w_X5_sheets_L159 Mf Lf z1 z2 post K) (fun _ _ => False) n = rec at h ih
      unfold w_X5_sheets_L159 at h
      refine lv_iload hx hb dX5_sheets_159 (lv_at hl 4 rfl) ?_
      refine lv_bipush (v := 64) hx hb dX5_sheets_161 (by decide) ?_
      refine lv_icmp_ge (tgt := 184) hx hb dX5_sheets_163 (by decide) (fun ct => ?_) (fun ct => ?_)
      · have h := h.1 ct
        exact hKK _ _ h _ _ hP hD hS ls (lv_sub hl [0, 1, 2, 3, 4] rfl)
      · have h := h.2 ct
        refine lv_iload_n hx hb dX5_sheets_166 rfl (lv_at hl 3 rfl) ?_
        refine lv_aload_n hx hb dX5_sheets_167 rfl (lv_at hl 0 rfl) ?_
        refine gf_X5_7 hx hb hT hown hK hP 0 rfl rfl dX5_sheets_168 ?_
        refine lv_iconst (v := 0) hx hb dX5_sheets_171 (by decide) ?_
        refine lv_iload hx hb dX5_sheets_172 (lv_at hl 4 rfl) ?_
        refine lv_iadd hx hb dX5_sheets_174 ?_
        obtain ⟨hi, h⟩ := h
        refine va_iald hx hb hK hP 1 0 rfl rfl hi dX5_sheets_175 ?_
        refine lv_iadd hx hb dX5_sheets_176 ?_
        refine lv_topi (fun v33 ev33 => ?_)
        have h := h v33 ev33
        refine lv_istore_n (lv' := [(3, .int v33), (0, .ref (a 99)), (1, .int z1), (2, .int z2), (4, .int y4)]) hx hb dX5_sheets_177 rfl hl (by decide) rfl (fun ls hl => ?_)
        refine lv_iinc (v := y4 + 1) (lv' := [(4, .int (y4 + 1)), (3, .int v33), (0, .ref (a 99)), (1, .int z1), (2, .int z2)]) hx hb dX5_sheets_178 hl (k := 4) rfl rfl (by decide) rfl (fun ls hl => ?_)
        refine lv_goto (tgt := 159) hx hb dX5_sheets_181 (by decide) ?_
        exact ih _ _ h _ _ hP hD hS ls (lv_sub hl [2, 3, 4, 1, 0] rfl)
  have HL187 : ∀ (Lf : ZL) (z1 : Int32) (z2 : Int32) (z3 : Int32) (K : ZI → Int32 → Prop), (∀ (Mv : ZI) (y4 : Int32), K Mv y4 → ∀ (H : Heap) (locs : List Loc), va_P G vwCl (mdW a cs Mv Lf) H → va_D A (mdW a cs Mv Lf) → va_S A s.heap H locs → ∀ ls : Array Slot, lv_has ls 8 [(0, .ref (a 99)), (1, .int z1), (2, .int z2), (3, .int z3), (4, .int y4)] → W p l e rm_X5_sheets s m args below meth c H locs 0 0 (MQ below (va_Qi (fun (r : Int32) (u : ZI × ZL) => post r u.1 u.2) (CB G A (fun u => (mdW a cs u.1 u.2))) A) args s 0 0 A) (F0 m 214 ls [])) → ∀ (n : Nat) (Mv : ZI) (y4 : Int32), itF (w_X5_sheets_L187 Lf z1 z2 z3 post K) (fun _ _ => False) n Mv y4 → ∀ (H : Heap) (locs : List Loc), va_P G vwCl (mdW a cs Mv Lf) H → va_D A (mdW a cs Mv Lf) → va_S A s.heap H locs → ∀ ls : Array Slot, lv_has ls 8 [(0, .ref (a 99)), (1, .int z1), (2, .int z2), (3, .int z3), (4, .int y4)] → W p l e rm_X5_sheets s m args below meth c H locs 0 0 (MQ below (va_Qi (fun (r : Int32) (u : ZI × ZL) => post r u.1 u.2) (CB G A (fun u => (mdW a cs u.1 u.2))) A) args s 0 0 A) (F0 m 187 ls []) := by
    intro Lf z1 z2 z3 K hKK n
    induction n with
    | zero =>
      intro Mv y4 h
      exact absurd h id
    | succ n ih =>
      intro Mv y4 h H locs hP hD hS ls hl
      have h : w_X5_sheets_L187 Lf z1 z2 z3 post K (itF (w_X5_sheets_L187 Lf z1 z2 z3 post K) (fun _ _ => False) n) Mv y4 := h
      generalize itF (w_X5_sheets_L187 Lf z1 z2 z3 post K) (fun _ _ => False) n = rec at h ih
      unfold w_X5_sheets_L187 at h
      refine lv_iload hx hb dX5_sheets_187 (lv_at hl 4 rfl) ?_
      refine lv_bipush (v := 99) hx hb dX5_sheets_189 (by decide) ?_
      refine lv_icmp_ge (tgt := 214) hx hb dX5_sheets_191 (by decide) (fun ct => ?_) (fun ct => ?_)
      · have h := h.1 ct
        exact hKK _ _ h _ _ hP hD hS ls (lv_sub hl [0, 1, 2, 3, 4] rfl)
      · have h := h.2 ct
        refine lv_aload_n hx hb dX5_sheets_194 rfl (lv_at hl 0 rfl) ?_
        refine gf_X5_7 hx hb hT hown hK hP 0 rfl rfl dX5_sheets_195 ?_
        refine lv_iload hx hb dX5_sheets_198 (lv_at hl 4 rfl) ?_
        refine lv_aload_n hx hb dX5_sheets_200 rfl (lv_at hl 0 rfl) ?_
        refine gf_X5_38 hx hb hT hown hK hP 0 rfl rfl dX5_sheets_201 ?_
        refine lv_iload hx hb dX5_sheets_204 (lv_at hl 4 rfl) ?_
        obtain ⟨hi, h⟩ := h
        refine va_iald hx hb hK hP 9 0 rfl rfl hi dX5_sheets_206 ?_
        obtain ⟨hi, h⟩ := h
        refine va_iast hx hb hK hP hD hS 1 0 rfl rfl hi dX5_sheets_207 (fun H locs hP hD hS => ?_)
        obtain ⟨M36, eM36⟩ : ∃ z : ZI, z = mu Mv 0 y4.toNatClampNeg (Mv 16 y4.toNatClampNeg) := ⟨_, rfl⟩
        have h := h M36 eM36
        have hP : va_P G vwCl (mdW a cs M36 Lf) H := by rw [eM36]; exact hP
        have hD : va_D A (mdW a cs M36 Lf) := by rw [eM36]; exact hD
        refine lv_iinc (v := y4 + 1) (lv' := [(4, .int (y4 + 1)), (0, .ref (a 99)), (1, .int z1), (2, .int z2), (3, .int z3)]) hx hb dX5_sheets_208 hl (k := 4) rfl rfl (by decide) rfl (fun ls hl => ?_)
        refine lv_goto (tgt := 187) hx hb dX5_sheets_211 (by decide) ?_
        exact ih _ _ h _ _ hP hD hS ls (lv_sub hl [1, 2, 3, 4, 0] rfl)
  refine lv_iload_n hx hb dX5_sheets_0 rfl (lv_at hl 1 rfl) ?_
  refine lv_i2l (v := x1.toInt64) hx hb dX5_sheets_1 rfl ?_
  refine lv_lconst (v := 0) hx hb dX5_sheets_2 (by decide) ?_
  refine ki_X5_241 hx hb hT hown dX5_sheets_3 ?_
  refine cl_Si (rn_S (rest := []) hx hb hml hown hT hl.1 ck_X5_54 (c_X5_in l x1.toInt64 0 999999 _ h) ⟨rfl, rfl, (Nat.le_of_ble_eq_true rfl), (Nat.le_of_ble_eq_true rfl)⟩ ⟨Nat.zero_le _, Nat.zero_le _⟩ rfl rfl (Nat.le_of_ble_eq_true rfl) dX5_sheets_6) (fun r1 h => ?_)
  refine lv_if_eq (tgt := 24) hx hb dX5_sheets_9 (by decide) (fun ct => ?_) (fun ct => ?_)
  · have h := h.1 ct
    refine lv_aload_n hx hb dX5_sheets_24 rfl (lv_at hl 0 rfl) ?_
    refine wi_allM (rn_V (rest := []) (ci := 3) hx hb hml hown hT hl.1 hC hS hP hD 0 rfl rfl rfl ck_X5_110 (c_X5_bad l G cs ts a H.size M L  _ h) ⟨rfl, rfl, (Nat.le_of_ble_eq_true rfl), (Nat.le_of_ble_eq_true rfl)⟩ ⟨Nat.le_refl _, Nat.le_refl _⟩ rfl rfl (Nat.le_of_ble_eq_true rfl) dX5_sheets_25) hD hS hA (fun r2 M3 L4 H locs hP hD hS h => ?_)
    exact rt_Wi hx hb hr hlk dX5_sheets_28 (M3, L4) hP hD hS h
  · have h := h.2 ct
    refine lv_iload_n hx hb dX5_sheets_12 rfl (lv_at hl 2 rfl) ?_
    refine lv_i2l (v := x2.toInt64) hx hb dX5_sheets_13 rfl ?_
    refine lv_lconst (v := 0) hx hb dX5_sheets_14 (by decide) ?_
    refine ki_X5_243 hx hb hT hown dX5_sheets_15 ?_
    refine cl_Si (rn_S (rest := []) hx hb hml hown hT hl.1 ck_X5_54 (c_X5_in l x2.toInt64 0 30 _ h) ⟨rfl, rfl, (Nat.le_of_ble_eq_true rfl), (Nat.le_of_ble_eq_true rfl)⟩ ⟨Nat.zero_le _, Nat.zero_le _⟩ rfl rfl (Nat.le_of_ble_eq_true rfl) dX5_sheets_18) (fun r5 h => ?_)
    refine lv_if_ne (tgt := 29) hx hb dX5_sheets_21 (by decide) (fun ct => ?_) (fun ct => ?_)
    · have h := h.1 ct
      refine lv_iconst (v := 0) hx hb dX5_sheets_29 (by decide) ?_
      refine lv_istore_n (lv' := [(3, .int 0), (0, .ref (a 99)), (1, .int x1), (2, .int x2)]) hx hb dX5_sheets_30 rfl hl (by decide) rfl (fun ls hl => ?_)
      obtain ⟨n42, h⟩ := h
      refine HL31 _ _ _ _ (fun M7 v8 h H locs hP hD hS ls hl => ?_) n42 _ _ h _ _ hP hD hS ls (lv_sub hl [1, 2, 3, 0] rfl)
      refine lv_aload_n hx hb dX5_sheets_55 rfl (lv_at hl 0 rfl) ?_
      refine lv_iload_n hx hb dX5_sheets_56 rfl (lv_at hl 1 rfl) ?_
      refine lv_i2l (v := x1.toInt64) hx hb dX5_sheets_57 rfl ?_
      refine pf_X5_230 hx hb hT hown hK hP hD hS 0 rfl (Nat.le_of_ble_eq_true rfl) dX5_sheets_58 (fun H locs hP hD hS => ?_)
      obtain ⟨L9, eL9⟩ : ∃ z : ZL, z = ml L 17 0 x1.toInt64 := ⟨_, rfl⟩
      have h := h L9 eL9
      have hP : va_P G vwCl (mdW a cs M7 L9) H := by rw [eL9]; exact hP
      have hD : va_D A (mdW a cs M7 L9) := by rw [eL9]; exact hD
      refine lv_iconst (v := 0) hx hb dX5_sheets_61 (by decide) ?_
      refine lv_istore_n (lv' := [(3, .int 0), (0, .ref (a 99)), (1, .int x1), (2, .int x2)]) hx hb dX5_sheets_62 rfl hl (by decide) rfl (fun ls hl => ?_)
      obtain ⟨n41, h⟩ := h
      refine HL63 _ _ _ (fun M30 L31 v32 h H locs hP hD hS ls hl => ?_) n41 _ _ _ h _ _ hP hD hS ls (lv_sub hl [1, 2, 3, 0] rfl)
      refine lv_iconst (v := 0) hx hb dX5_sheets_154 (by decide) ?_
      refine lv_istore_n (lv' := [(3, .int 0), (0, .ref (a 99)), (1, .int x1), (2, .int x2)]) hx hb dX5_sheets_155 rfl hl (by decide) rfl (fun ls hl => ?_)
      refine lv_iconst (v := 0) hx hb dX5_sheets_156 (by decide) ?_
      refine lv_istore (lv' := [(4, .int 0), (3, .int 0), (0, .ref (a 99)), (1, .int x1), (2, .int x2)]) hx hb dX5_sheets_157 hl (by decide) rfl (fun ls hl => ?_)
      obtain ⟨n40, h⟩ := h
      refine HL159 _ _ _ _ _ (fun v34 v35 h H locs hP hD hS ls hl => ?_) n40 _ _ h _ _ hP hD hS ls (lv_sub hl [2, 3, 4, 1, 0] rfl)
      refine lv_iconst (v := 0) hx hb dX5_sheets_184 (by decide) ?_
      refine lv_istore (lv' := [(4, .int 0), (0, .ref (a 99)), (1, .int x1), (2, .int x2), (3, .int v34)]) hx hb dX5_sheets_185 hl (by decide) rfl (fun ls hl => ?_)
      obtain ⟨n39, h⟩ := h
      refine HL187 _ _ _ _ _ (fun M37 v38 h H locs hP hD hS ls hl => ?_) n39 _ _ h _ _ hP hD hS ls (lv_sub hl [1, 2, 3, 4, 0] rfl)
      refine lv_iload_n hx hb dX5_sheets_214 rfl (lv_at hl 3 rfl) ?_
      exact rt_Wi hx hb hr hlk dX5_sheets_215 (M37, L31) hP hD hS h
    · have h := h.2 ct
      refine lv_aload_n hx hb dX5_sheets_24 rfl (lv_at hl 0 rfl) ?_
      refine wi_allM (rn_V (rest := []) (ci := 3) hx hb hml hown hT hl.1 hC hS hP hD 0 rfl rfl rfl ck_X5_110 (c_X5_bad l G cs ts a H.size M L  _ h) ⟨rfl, rfl, (Nat.le_of_ble_eq_true rfl), (Nat.le_of_ble_eq_true rfl)⟩ ⟨Nat.le_refl _, Nat.le_refl _⟩ rfl rfl (Nat.le_of_ble_eq_true rfl) dX5_sheets_25) hD hS hA (fun r43 M44 L45 H locs hP hD hS h => ?_)
      exact rt_Wi hx hb hr hlk dX5_sheets_28 (M44, L45) hP hD hS h
abbrev rm_X5_part : Room := { frames := 1, cells := 0, slots := 0, locals := 20 }
set_option maxRecDepth 100000 in
set_option maxHeartbeats 4000000 in
theorem c_X5_part (l : Launch) (G : va_G) (cs ts : Nat → Nat) (a : Nat → Nat) (sz : Nat)  (M : ZI) (L : ZL)   (x1 : Int32) (post : Int64 → ZI → ZL → Prop) (h : w_X5_part M L x1 post) : Met l yX5_part [.code yX5_part cX5_part 2 (some .long)] rm_X5_part (va_Pc [.ref (a 99), .int x1] (CP G cs ts (mdW a cs M L) sz)) (va_Ql (fun (r : Int64) (u : ZI × ZL) => post r u.1 u.2) (CB G (va_A (mdW a cs M L) sz) (fun u => (mdW a cs u.1 u.2))) (va_A (mdW a cs M L) sz)) 0 0 (va_A (mdW a cs M L) sz) := by
  refine ax_W (Qc := fun A => va_Ql (fun (r : Int64) (u : ZI × ZL) => post r u.1 u.2) (CB G A (fun u => (mdW a cs u.1 u.2))) A) (by decide) (Nat.le_of_ble_eq_true rfl) sz ?_
  intro p e s m args below meth c A hx hb hr hlk hml hown hT hC hnm H locs hP hD hS ls hl
  have hK := hC.2.1
  have hA := hC.2.2
  have hl : lv_has ls 2 [(0, .ref (a 99)), (1, .int x1)] := hl
  unfold w_X5_part at h
  refine lv_iload_n hx hb dX5_part_0 rfl (lv_at hl 1 rfl) ?_
  refine lv_if_ne (tgt := 11) hx hb dX5_part_1 (by decide) (fun ct => ?_) (fun ct => ?_)
  · have h := h.1 ct
    refine lv_iload_n hx hb dX5_part_11 rfl (lv_at hl 1 rfl) ?_
    refine lv_iconst (v := 1) hx hb dX5_part_12 (by decide) ?_
    refine lv_icmp_ne (tgt := 23) hx hb dX5_part_13 (by decide) (fun ct => ?_) (fun ct => ?_)
    · have h := h.1 ct
      refine lv_aload_n hx hb dX5_part_23 rfl (lv_at hl 0 rfl) ?_
      refine wi_allM (rn_V (rest := []) (ci := 3) hx hb hml hown hT hl.1 hC hS hP hD 0 rfl rfl rfl ck_X5_110 (c_X5_bad l G cs ts a H.size M L  _ h) ⟨rfl, rfl, (Nat.le_of_ble_eq_true rfl), (Nat.le_of_ble_eq_true rfl)⟩ ⟨Nat.le_refl _, Nat.le_refl _⟩ rfl rfl (Nat.le_of_ble_eq_true rfl) dX5_part_24) hD hS hA (fun r1 M2 L3 H locs hP hD hS h => ?_)
      refine lv_i2l (v := r1.toInt64) hx hb dX5_part_27 rfl ?_
      exact rt_Wl hx hb hr hlk dX5_part_28 (M2, L3) hP hD hS h
    · have h := h.2 ct
      refine lv_aload_n hx hb dX5_part_16 rfl (lv_at hl 0 rfl) ?_
      refine gf_X5_13 hx hb hT hown hK hP 0 rfl rfl dX5_part_17 ?_
      refine lv_goto (tgt := 28) hx hb dX5_part_20 (by decide) ?_
      exact rt_Wl hx hb hr hlk dX5_part_28 (M, L) hP hD hS h
  · have h := h.2 ct
    refine lv_aload_n hx hb dX5_part_4 rfl (lv_at hl 0 rfl) ?_
    refine gf_X5_219 hx hb hT hown hK hP 0 rfl rfl dX5_part_5 ?_
    refine lv_goto (tgt := 28) hx hb dX5_part_8 (by decide) ?_
    exact rt_Wl hx hb hr hlk dX5_part_28 (M, L) hP hD hS h
abbrev rm_X5_image : Room := { frames := 2, cells := 0, slots := 0, locals := 45 }
set_option maxRecDepth 100000 in
set_option maxHeartbeats 4000000 in
theorem c_X5_image (l : Launch) (G : va_G) (cs ts : Nat → Nat) (a : Nat → Nat) (sz : Nat)  (M : ZI) (L : ZL)   (x1 : Int32) (post : Int32 → ZI → ZL → Prop) (h : w_X5_image M L x1 post) : Met l yX5_image [.code yX5_image cX5_image 3 (some .int)] rm_X5_image (va_Pc [.ref (a 99), .int x1] (CP G cs ts (mdW a cs M L) sz)) (va_Qi (fun (r : Int32) (u : ZI × ZL) => post r u.1 u.2) (CB G (va_A (mdW a cs M L) sz) (fun u => (mdW a cs u.1 u.2))) (va_A (mdW a cs M L) sz)) 0 0 (va_A (mdW a cs M L) sz) := by
  refine ax_W (Qc := fun A => va_Qi (fun (r : Int32) (u : ZI × ZL) => post r u.1 u.2) (CB G A (fun u => (mdW a cs u.1 u.2))) A) (by decide) (Nat.le_of_ble_eq_true rfl) sz ?_
  intro p e s m args below meth c A hx hb hr hlk hml hown hT hC hnm H locs hP hD hS ls hl
  have hK := hC.2.1
  have hA := hC.2.2
  have hl : lv_has ls 3 [(0, .ref (a 99)), (1, .int x1)] := hl
  unfold w_X5_image at h
  have HL14 : ∀ (Lf : ZL) (z1 : Int32) (K : ZI → Int32 → Prop), (∀ (Mv : ZI) (y2 : Int32), K Mv y2 → ∀ (H : Heap) (locs : List Loc), va_P G vwCl (mdW a cs Mv Lf) H → va_D A (mdW a cs Mv Lf) → va_S A s.heap H locs → ∀ ls : Array Slot, lv_has ls 3 [(0, .ref (a 99)), (1, .int z1), (2, .int y2)] → W p l e rm_X5_image s m args below meth c H locs 0 0 (MQ below (va_Qi (fun (r : Int32) (u : ZI × ZL) => post r u.1 u.2) (CB G A (fun u => (mdW a cs u.1 u.2))) A) args s 0 0 A) (F0 m 43 ls [])) → ∀ (n : Nat) (Mv : ZI) (y2 : Int32), itF (w_X5_image_L14 Lf z1 post K) (fun _ _ => False) n Mv y2 → ∀ (H : Heap) (locs : List Loc), va_P G vwCl (mdW a cs Mv Lf) H → va_D A (mdW a cs Mv Lf) → va_S A s.heap H locs → ∀ ls : Array Slot, lv_has ls 3 [(0, .ref (a 99)), (1, .int z1), (2, .int y2)] → W p l e rm_X5_image s m args below meth c H locs 0 0 (MQ below (va_Qi (fun (r : Int32) (u : ZI × ZL) => post r u.1 u.2) (CB G A (fun u => (mdW a cs u.1 u.2))) A) args s 0 0 A) (F0 m 14 ls []) := by
    intro Lf z1 K hKK n
    induction n with
    | zero =>
      intro Mv y2 h
      exact absurd h id
    | succ n ih =>
      intro Mv y2 h H locs hP hD hS ls hl
      have h : w_X5_image_L14 Lf z1 post K (itF (w_X5_image_L14 Lf z1 post K) (fun _ _ => False) n) Mv y2 := h
      generalize itF (w_X5_image_L14 Lf z1 post K) (fun _ _ => False) n = rec at h ih
      unfold w_X5_image_L14 at h
      refine lv_iload_n hx hb dX5_image_14 rfl (lv_at hl 2 rfl) ?_
      refine lv_bipush (v := 99) hx hb dX5_image_15 (by decide) ?_
      refine lv_icmp_ge (tgt := 43) hx hb dX5_image_17 (by decide) (fun ct => ?_) (fun ct => ?_)
      · have h := h.1 ct
        exact hKK _ _ h _ _ hP hD hS ls (lv_sub hl [0, 1, 2] rfl)
      · have h := h.2 ct
        refine lv_aload_n hx hb dX5_image_20 rfl (lv_at hl 0 rfl) ?_
        refine gf_X5_45 hx hb hT hown hK hP 0 rfl rfl dX5_image_21 ?_
        refine lv_bipush (v := 99) hx hb dX5_image_24 (by decide) ?_
        refine lv_iload_n hx hb dX5_image_26 rfl (lv_at hl 1 rfl) ?_
        refine lv_imul hx hb dX5_image_27 ?_
        refine lv_iload_n hx hb dX5_image_28 rfl (lv_at hl 2 rfl) ?_
        refine lv_iadd hx hb dX5_image_29 ?_
        refine lv_aload_n hx hb dX5_image_30 rfl (lv_at hl 0 rfl) ?_
        refine gf_X5_7 hx hb hT hown hK hP 0 rfl rfl dX5_image_31 ?_
        refine lv_iload_n hx hb dX5_image_34 rfl (lv_at hl 2 rfl) ?_
        obtain ⟨hi, h⟩ := h
        refine va_iald hx hb hK hP 1 0 rfl rfl hi dX5_image_35 ?_
        obtain ⟨hi, h⟩ := h
        refine va_iast hx hb hK hP hD hS 11 0 rfl rfl hi dX5_image_36 (fun H locs hP hD hS => ?_)
        obtain ⟨M2, eM2⟩ : ∃ z : ZI, z = mu Mv 19 ((99 * z1) + y2).toNatClampNeg (Mv 0 y2.toNatClampNeg) := ⟨_, rfl⟩
        have h := h M2 eM2
        have hP : va_P G vwCl (mdW a cs M2 Lf) H := by rw [eM2]; exact hP
        have hD : va_D A (mdW a cs M2 Lf) := by rw [eM2]; exact hD
        refine lv_iinc (v := y2 + 1) (lv' := [(2, .int (y2 + 1)), (0, .ref (a 99)), (1, .int z1)]) hx hb dX5_image_37 hl (k := 2) rfl rfl (by decide) rfl (fun ls hl => ?_)
        refine lv_goto (tgt := 14) hx hb dX5_image_40 (by decide) ?_
        exact ih _ _ h _ _ hP hD hS ls (lv_sub hl [1, 2, 0] rfl)
  have HL45 : ∀ (Lf : ZL) (z1 : Int32) (K : ZI → Int32 → Prop), (∀ (Mv : ZI) (y2 : Int32), K Mv y2 → ∀ (H : Heap) (locs : List Loc), va_P G vwCl (mdW a cs Mv Lf) H → va_D A (mdW a cs Mv Lf) → va_S A s.heap H locs → ∀ ls : Array Slot, lv_has ls 3 [(0, .ref (a 99)), (1, .int z1), (2, .int y2)] → W p l e rm_X5_image s m args below meth c H locs 0 0 (MQ below (va_Qi (fun (r : Int32) (u : ZI × ZL) => post r u.1 u.2) (CB G A (fun u => (mdW a cs u.1 u.2))) A) args s 0 0 A) (F0 m 76 ls [])) → ∀ (n : Nat) (Mv : ZI) (y2 : Int32), itF (w_X5_image_L45 Lf z1 post K) (fun _ _ => False) n Mv y2 → ∀ (H : Heap) (locs : List Loc), va_P G vwCl (mdW a cs Mv Lf) H → va_D A (mdW a cs Mv Lf) → va_S A s.heap H locs → ∀ ls : Array Slot, lv_has ls 3 [(0, .ref (a 99)), (1, .int z1), (2, .int y2)] → W p l e rm_X5_image s m args below meth c H locs 0 0 (MQ below (va_Qi (fun (r : Int32) (u : ZI × ZL) => post r u.1 u.2) (CB G A (fun u => (mdW a cs u.1 u.2))) A) args s 0 0 A) (F0 m 45 ls []) := by
    intro Lf z1 K hKK n
    induction n with
    | zero =>
      intro Mv y2 h
      exact absurd h id
    | succ n ih =>
      intro Mv y2 h H locs hP hD hS ls hl
      have h : w_X5_image_L45 Lf z1 post K (itF (w_X5_image_L45 Lf z1 post K) (fun _ _ => False) n) Mv y2 := h
      generalize itF (w_X5_image_L45 Lf z1 post K) (fun _ _ => False) n = rec at h ih
      unfold w_X5_image_L45 at h
      refine lv_iload_n hx hb dX5_image_45 rfl (lv_at hl 2 rfl) ?_
      refine lv_sipush (v := 520) hx hb dX5_image_46 (by decide) ?_
      refine lv_icmp_ge (tgt := 76) hx hb dX5_image_49 (by decide) (fun ct => ?_) (fun ct => ?_)
      · have h := h.1 ct
        exact hKK _ _ h _ _ hP hD hS ls (lv_sub hl [0, 1, 2] rfl)
      · have h := h.2 ct
        refine lv_aload_n hx hb dX5_image_52 rfl (lv_at hl 0 rfl) ?_
        refine gf_X5_48 hx hb hT hown hK hP 0 rfl rfl dX5_image_53 ?_
        refine lv_sipush (v := 520) hx hb dX5_image_56 (by decide) ?_
        refine lv_iload_n hx hb dX5_image_59 rfl (lv_at hl 1 rfl) ?_
        refine lv_imul hx hb dX5_image_60 ?_
        refine lv_iload_n hx hb dX5_image_61 rfl (lv_at hl 2 rfl) ?_
        refine lv_iadd hx hb dX5_image_62 ?_
        refine lv_aload_n hx hb dX5_image_63 rfl (lv_at hl 0 rfl) ?_
        refine gf_X5_23 hx hb hT hown hK hP 0 rfl rfl dX5_image_64 ?_
        refine lv_iload_n hx hb dX5_image_67 rfl (lv_at hl 2 rfl) ?_
        obtain ⟨hi, h⟩ := h
        refine va_iald hx hb hK hP 4 0 rfl rfl hi dX5_image_68 ?_
        obtain ⟨hi, h⟩ := h
        refine va_iast hx hb hK hP hD hS 12 0 rfl rfl hi dX5_image_69 (fun H locs hP hD hS => ?_)
        obtain ⟨M5, eM5⟩ : ∃ z : ZI, z = mu Mv 20 ((520 * z1) + y2).toNatClampNeg (Mv 5 y2.toNatClampNeg) := ⟨_, rfl⟩
        have h := h M5 eM5
        have hP : va_P G vwCl (mdW a cs M5 Lf) H := by rw [eM5]; exact hP
        have hD : va_D A (mdW a cs M5 Lf) := by rw [eM5]; exact hD
        refine lv_iinc (v := y2 + 1) (lv' := [(2, .int (y2 + 1)), (0, .ref (a 99)), (1, .int z1)]) hx hb dX5_image_70 hl (k := 2) rfl rfl (by decide) rfl (fun ls hl => ?_)
        refine lv_goto (tgt := 45) hx hb dX5_image_73 (by decide) ?_
        exact ih _ _ h _ _ hP hD hS ls (lv_sub hl [1, 2, 0] rfl)
  refine lv_iload_n hx hb dX5_image_0 rfl (lv_at hl 1 rfl) ?_
  refine cl_Si (rn_S (rest := []) hx hb hml hown hT hl.1 ck_X5_62 (c_X5_isWhat l x1 _ h) ⟨rfl, rfl, (Nat.le_of_ble_eq_true rfl), (Nat.le_of_ble_eq_true rfl)⟩ ⟨Nat.zero_le _, Nat.zero_le _⟩ rfl rfl (Nat.le_of_ble_eq_true rfl) dX5_image_1) (fun r1 h => ?_)
  refine lv_if_ne (tgt := 12) hx hb dX5_image_4 (by decide) (fun ct => ?_) (fun ct => ?_)
  · have h := h.1 ct
    refine lv_iconst (v := 0) hx hb dX5_image_12 (by decide) ?_
    refine lv_istore_n (lv' := [(2, .int 0), (0, .ref (a 99)), (1, .int x1)]) hx hb dX5_image_13 rfl hl (by decide) rfl (fun ls hl => ?_)
    obtain ⟨n11, h⟩ := h
    refine HL14 _ _ _ (fun M3 v4 h H locs hP hD hS ls hl => ?_) n11 _ _ h _ _ hP hD hS ls (lv_sub hl [1, 2, 0] rfl)
    refine lv_iconst (v := 0) hx hb dX5_image_43 (by decide) ?_
    refine lv_istore_n (lv' := [(2, .int 0), (0, .ref (a 99)), (1, .int x1)]) hx hb dX5_image_44 rfl hl (by decide) rfl (fun ls hl => ?_)
    obtain ⟨n10, h⟩ := h
    refine HL45 _ _ _ (fun M6 v7 h H locs hP hD hS ls hl => ?_) n10 _ _ h _ _ hP hD hS ls (lv_sub hl [1, 2, 0] rfl)
    refine lv_aload_n hx hb dX5_image_76 rfl (lv_at hl 0 rfl) ?_
    refine gf_X5_51 hx hb hT hown hK hP 0 rfl rfl dX5_image_77 ?_
    refine lv_iload_n hx hb dX5_image_80 rfl (lv_at hl 1 rfl) ?_
    refine lv_aload_n hx hb dX5_image_81 rfl (lv_at hl 0 rfl) ?_
    refine gf_X5_104 hx hb hT hown hK hP 0 rfl rfl dX5_image_82 ?_
    obtain ⟨hi, h⟩ := h
    refine va_iast hx hb hK hP hD hS 13 0 rfl rfl hi dX5_image_85 (fun H locs hP hD hS => ?_)
    obtain ⟨M8, eM8⟩ : ∃ z : ZI, z = mu M6 21 x1.toNatClampNeg (M6 6 0) := ⟨_, rfl⟩
    have h := h M8 eM8
    have hP : va_P G vwCl (mdW a cs M8 L) H := by rw [eM8]; exact hP
    have hD : va_D A (mdW a cs M8 L) := by rw [eM8]; exact hD
    refine lv_aload_n hx hb dX5_image_86 rfl (lv_at hl 0 rfl) ?_
    refine gf_X5_41 hx hb hT hown hK hP 0 rfl rfl dX5_image_87 ?_
    refine lv_iload_n hx hb dX5_image_90 rfl (lv_at hl 1 rfl) ?_
    refine lv_iconst (v := 1) hx hb dX5_image_91 (by decide) ?_
    obtain ⟨hi, h⟩ := h
    refine va_zast hx hb hK hP hD hS 10 3 rfl rfl hi dX5_image_92 (fun H locs hP hD hS => ?_)
    obtain ⟨M9, eM9⟩ : ∃ z : ZI, z = mu M8 18 x1.toNatClampNeg (vp_nar .boolean 1) := ⟨_, rfl⟩
    have h := h M9 eM9
    have hP : va_P G vwCl (mdW a cs M9 L) H := by rw [eM9]; exact hP
    have hD : va_D A (mdW a cs M9 L) := by rw [eM9]; exact hD
    refine lv_iconst (v := 1) hx hb dX5_image_93 (by decide) ?_
    exact rt_Wi hx hb hr hlk dX5_image_94 (M9, L) hP hD hS h
  · have h := h.2 ct
    refine lv_aload_n hx hb dX5_image_7 rfl (lv_at hl 0 rfl) ?_
    refine wi_allM (rn_V (rest := []) (ci := 3) hx hb hml hown hT hl.1 hC hS hP hD 0 rfl rfl rfl ck_X5_110 (c_X5_bad l G cs ts a H.size M L  _ h) ⟨rfl, rfl, (Nat.le_of_ble_eq_true rfl), (Nat.le_of_ble_eq_true rfl)⟩ ⟨Nat.le_refl _, Nat.le_refl _⟩ rfl rfl (Nat.le_of_ble_eq_true rfl) dX5_image_8) hD hS hA (fun r12 M13 L14 H locs hP hD hS h => ?_)
    exact rt_Wi hx hb hr hlk dX5_image_11 (M13, L14) hP hD hS h
abbrev rm_X5_from : Room := { frames := 2, cells := 0, slots := 0, locals := 45 }
set_option maxRecDepth 100000 in
set_option maxHeartbeats 4000000 in
theorem c_X5_from (l : Launch) (G : va_G) (cs ts : Nat → Nat) (a : Nat → Nat) (sz : Nat)  (M : ZI) (L : ZL)   (x1 : Int32) (post : Int32 → ZI → ZL → Prop) (h : w_X5_from M L x1 post) : Met l yX5_from [.code yX5_from cX5_from 3 (some .int)] rm_X5_from (va_Pc [.ref (a 99), .int x1] (CP G cs ts (mdW a cs M L) sz)) (va_Qi (fun (r : Int32) (u : ZI × ZL) => post r u.1 u.2) (CB G (va_A (mdW a cs M L) sz) (fun u => (mdW a cs u.1 u.2))) (va_A (mdW a cs M L) sz)) 0 0 (va_A (mdW a cs M L) sz) := by
  refine ax_W (Qc := fun A => va_Qi (fun (r : Int32) (u : ZI × ZL) => post r u.1 u.2) (CB G A (fun u => (mdW a cs u.1 u.2))) A) (by decide) (Nat.le_of_ble_eq_true rfl) sz ?_
  intro p e s m args below meth c A hx hb hr hlk hml hown hT hC hnm H locs hP hD hS ls hl
  have hK := hC.2.1
  have hA := hC.2.2
  have hl : lv_has ls 3 [(0, .ref (a 99)), (1, .int x1)] := hl
  unfold w_X5_from at h
  have HL28 : ∀ (Lf : ZL) (z1 : Int32) (K : ZI → Int32 → Prop), (∀ (Mv : ZI) (y2 : Int32), K Mv y2 → ∀ (H : Heap) (locs : List Loc), va_P G vwCl (mdW a cs Mv Lf) H → va_D A (mdW a cs Mv Lf) → va_S A s.heap H locs → ∀ ls : Array Slot, lv_has ls 3 [(0, .ref (a 99)), (1, .int z1), (2, .int y2)] → W p l e rm_X5_from s m args below meth c H locs 0 0 (MQ below (va_Qi (fun (r : Int32) (u : ZI × ZL) => post r u.1 u.2) (CB G A (fun u => (mdW a cs u.1 u.2))) A) args s 0 0 A) (F0 m 57 ls [])) → ∀ (n : Nat) (Mv : ZI) (y2 : Int32), itF (w_X5_from_L28 Lf z1 post K) (fun _ _ => False) n Mv y2 → ∀ (H : Heap) (locs : List Loc), va_P G vwCl (mdW a cs Mv Lf) H → va_D A (mdW a cs Mv Lf) → va_S A s.heap H locs → ∀ ls : Array Slot, lv_has ls 3 [(0, .ref (a 99)), (1, .int z1), (2, .int y2)] → W p l e rm_X5_from s m args below meth c H locs 0 0 (MQ below (va_Qi (fun (r : Int32) (u : ZI × ZL) => post r u.1 u.2) (CB G A (fun u => (mdW a cs u.1 u.2))) A) args s 0 0 A) (F0 m 28 ls []) := by
    intro Lf z1 K hKK n
    induction n with
    | zero =>
      intro Mv y2 h
      exact absurd h id
    | succ n ih =>
      intro Mv y2 h H locs hP hD hS ls hl
      have h : w_X5_from_L28 Lf z1 post K (itF (w_X5_from_L28 Lf z1 post K) (fun _ _ => False) n) Mv y2 := h
      generalize itF (w_X5_from_L28 Lf z1 post K) (fun _ _ => False) n = rec at h ih
      unfold w_X5_from_L28 at h
      refine lv_iload_n hx hb dX5_from_28 rfl (lv_at hl 2 rfl) ?_
      refine lv_bipush (v := 99) hx hb dX5_from_29 (by decide) ?_
      refine lv_icmp_ge (tgt := 57) hx hb dX5_from_31 (by decide) (fun ct => ?_) (fun ct => ?_)
      · have h := h.1 ct
        exact hKK _ _ h _ _ hP hD hS ls (lv_sub hl [0, 1, 2] rfl)
      · have h := h.2 ct
        refine lv_aload_n hx hb dX5_from_34 rfl (lv_at hl 0 rfl) ?_
        refine gf_X5_7 hx hb hT hown hK hP 0 rfl rfl dX5_from_35 ?_
        refine lv_iload_n hx hb dX5_from_38 rfl (lv_at hl 2 rfl) ?_
        refine lv_aload_n hx hb dX5_from_39 rfl (lv_at hl 0 rfl) ?_
        refine gf_X5_45 hx hb hT hown hK hP 0 rfl rfl dX5_from_40 ?_
        refine lv_bipush (v := 99) hx hb dX5_from_43 (by decide) ?_
        refine lv_iload_n hx hb dX5_from_45 rfl (lv_at hl 1 rfl) ?_
        refine lv_imul hx hb dX5_from_46 ?_
        refine lv_iload_n hx hb dX5_from_47 rfl (lv_at hl 2 rfl) ?_
        refine lv_iadd hx hb dX5_from_48 ?_
        obtain ⟨hi, h⟩ := h
        refine va_iald hx hb hK hP 11 0 rfl rfl hi dX5_from_49 ?_
        obtain ⟨hi, h⟩ := h
        refine va_iast hx hb hK hP hD hS 1 0 rfl rfl hi dX5_from_50 (fun H locs hP hD hS => ?_)
        obtain ⟨M2, eM2⟩ : ∃ z : ZI, z = mu Mv 0 y2.toNatClampNeg (Mv 19 ((99 * z1) + y2).toNatClampNeg) := ⟨_, rfl⟩
        have h := h M2 eM2
        have hP : va_P G vwCl (mdW a cs M2 Lf) H := by rw [eM2]; exact hP
        have hD : va_D A (mdW a cs M2 Lf) := by rw [eM2]; exact hD
        refine lv_iinc (v := y2 + 1) (lv' := [(2, .int (y2 + 1)), (0, .ref (a 99)), (1, .int z1)]) hx hb dX5_from_51 hl (k := 2) rfl rfl (by decide) rfl (fun ls hl => ?_)
        refine lv_goto (tgt := 28) hx hb dX5_from_54 (by decide) ?_
        exact ih _ _ h _ _ hP hD hS ls (lv_sub hl [1, 2, 0] rfl)
  have HL59 : ∀ (Lf : ZL) (z1 : Int32) (K : ZI → Int32 → Prop), (∀ (Mv : ZI) (y2 : Int32), K Mv y2 → ∀ (H : Heap) (locs : List Loc), va_P G vwCl (mdW a cs Mv Lf) H → va_D A (mdW a cs Mv Lf) → va_S A s.heap H locs → ∀ ls : Array Slot, lv_has ls 3 [(0, .ref (a 99)), (1, .int z1), (2, .int y2)] → W p l e rm_X5_from s m args below meth c H locs 0 0 (MQ below (va_Qi (fun (r : Int32) (u : ZI × ZL) => post r u.1 u.2) (CB G A (fun u => (mdW a cs u.1 u.2))) A) args s 0 0 A) (F0 m 90 ls [])) → ∀ (n : Nat) (Mv : ZI) (y2 : Int32), itF (w_X5_from_L59 Lf z1 post K) (fun _ _ => False) n Mv y2 → ∀ (H : Heap) (locs : List Loc), va_P G vwCl (mdW a cs Mv Lf) H → va_D A (mdW a cs Mv Lf) → va_S A s.heap H locs → ∀ ls : Array Slot, lv_has ls 3 [(0, .ref (a 99)), (1, .int z1), (2, .int y2)] → W p l e rm_X5_from s m args below meth c H locs 0 0 (MQ below (va_Qi (fun (r : Int32) (u : ZI × ZL) => post r u.1 u.2) (CB G A (fun u => (mdW a cs u.1 u.2))) A) args s 0 0 A) (F0 m 59 ls []) := by
    intro Lf z1 K hKK n
    induction n with
    | zero =>
      intro Mv y2 h
      exact absurd h id
    | succ n ih =>
      intro Mv y2 h H locs hP hD hS ls hl
      have h : w_X5_from_L59 Lf z1 post K (itF (w_X5_from_L59 Lf z1 post K) (fun _ _ => False) n) Mv y2 := h
      generalize itF (w_X5_from_L59 Lf z1 post K) (fun _ _ => False) n = rec at h ih
      unfold w_X5_from_L59 at h
      refine lv_iload_n hx hb dX5_from_59 rfl (lv_at hl 2 rfl) ?_
      refine lv_sipush (v := 520) hx hb dX5_from_60 (by decide) ?_
      refine lv_icmp_ge (tgt := 90) hx hb dX5_from_63 (by decide) (fun ct => ?_) (fun ct => ?_)
      · have h := h.1 ct
        exact hKK _ _ h _ _ hP hD hS ls (lv_sub hl [0, 1, 2] rfl)
      · have h := h.2 ct
        refine lv_aload_n hx hb dX5_from_66 rfl (lv_at hl 0 rfl) ?_
        refine gf_X5_23 hx hb hT hown hK hP 0 rfl rfl dX5_from_67 ?_
        refine lv_iload_n hx hb dX5_from_70 rfl (lv_at hl 2 rfl) ?_
        refine lv_aload_n hx hb dX5_from_71 rfl (lv_at hl 0 rfl) ?_
        refine gf_X5_48 hx hb hT hown hK hP 0 rfl rfl dX5_from_72 ?_
        refine lv_sipush (v := 520) hx hb dX5_from_75 (by decide) ?_
        refine lv_iload_n hx hb dX5_from_78 rfl (lv_at hl 1 rfl) ?_
        refine lv_imul hx hb dX5_from_79 ?_
        refine lv_iload_n hx hb dX5_from_80 rfl (lv_at hl 2 rfl) ?_
        refine lv_iadd hx hb dX5_from_81 ?_
        obtain ⟨hi, h⟩ := h
        refine va_iald hx hb hK hP 12 0 rfl rfl hi dX5_from_82 ?_
        obtain ⟨hi, h⟩ := h
        refine va_iast hx hb hK hP hD hS 4 0 rfl rfl hi dX5_from_83 (fun H locs hP hD hS => ?_)
        obtain ⟨M5, eM5⟩ : ∃ z : ZI, z = mu Mv 5 y2.toNatClampNeg (Mv 20 ((520 * z1) + y2).toNatClampNeg) := ⟨_, rfl⟩
        have h := h M5 eM5
        have hP : va_P G vwCl (mdW a cs M5 Lf) H := by rw [eM5]; exact hP
        have hD : va_D A (mdW a cs M5 Lf) := by rw [eM5]; exact hD
        refine lv_iinc (v := y2 + 1) (lv' := [(2, .int (y2 + 1)), (0, .ref (a 99)), (1, .int z1)]) hx hb dX5_from_84 hl (k := 2) rfl rfl (by decide) rfl (fun ls hl => ?_)
        refine lv_goto (tgt := 59) hx hb dX5_from_87 (by decide) ?_
        exact ih _ _ h _ _ hP hD hS ls (lv_sub hl [1, 2, 0] rfl)
  refine lv_iload_n hx hb dX5_from_0 rfl (lv_at hl 1 rfl) ?_
  refine cl_Si (rn_S (rest := []) hx hb hml hown hT hl.1 ck_X5_62 (c_X5_isWhat l x1 _ h) ⟨rfl, rfl, (Nat.le_of_ble_eq_true rfl), (Nat.le_of_ble_eq_true rfl)⟩ ⟨Nat.zero_le _, Nat.zero_le _⟩ rfl rfl (Nat.le_of_ble_eq_true rfl) dX5_from_1) (fun r1 h => ?_)
  refine lv_if_ne (tgt := 12) hx hb dX5_from_4 (by decide) (fun ct => ?_) (fun ct => ?_)
  · have h := h.1 ct
    refine lv_aload_n hx hb dX5_from_12 rfl (lv_at hl 0 rfl) ?_
    refine gf_X5_41 hx hb hT hown hK hP 0 rfl rfl dX5_from_13 ?_
    refine lv_iload_n hx hb dX5_from_16 rfl (lv_at hl 1 rfl) ?_
    obtain ⟨hi, h⟩ := h
    refine va_zald hx hb hK hP 10 3 rfl rfl hi dX5_from_17 ?_
    refine lv_if_ne (tgt := 26) hx hb dX5_from_18 (by decide) (fun ct => ?_) (fun ct => ?_)
    · have h := h.1 ct
      refine lv_iconst (v := 0) hx hb dX5_from_26 (by decide) ?_
      refine lv_istore_n (lv' := [(2, .int 0), (0, .ref (a 99)), (1, .int x1)]) hx hb dX5_from_27 rfl hl (by decide) rfl (fun ls hl => ?_)
      obtain ⟨n10, h⟩ := h
      refine HL28 _ _ _ (fun M3 v4 h H locs hP hD hS ls hl => ?_) n10 _ _ h _ _ hP hD hS ls (lv_sub hl [1, 2, 0] rfl)
      refine lv_iconst (v := 0) hx hb dX5_from_57 (by decide) ?_
      refine lv_istore_n (lv' := [(2, .int 0), (0, .ref (a 99)), (1, .int x1)]) hx hb dX5_from_58 rfl hl (by decide) rfl (fun ls hl => ?_)
      obtain ⟨n9, h⟩ := h
      refine HL59 _ _ _ (fun M6 v7 h H locs hP hD hS ls hl => ?_) n9 _ _ h _ _ hP hD hS ls (lv_sub hl [1, 2, 0] rfl)
      refine lv_aload_n hx hb dX5_from_90 rfl (lv_at hl 0 rfl) ?_
      refine lv_aload_n hx hb dX5_from_91 rfl (lv_at hl 0 rfl) ?_
      refine gf_X5_51 hx hb hT hown hK hP 0 rfl rfl dX5_from_92 ?_
      refine lv_iload_n hx hb dX5_from_95 rfl (lv_at hl 1 rfl) ?_
      obtain ⟨hi, h⟩ := h
      refine va_iald hx hb hK hP 13 0 rfl rfl hi dX5_from_96 ?_
      refine pf_X5_104 hx hb hT hown hK hP hD hS 0 rfl (Nat.le_of_ble_eq_true rfl) dX5_from_97 (fun H locs hP hD hS => ?_)
      obtain ⟨M8, eM8⟩ : ∃ z : ZI, z = mu M6 6 0 (M6 21 x1.toNatClampNeg) := ⟨_, rfl⟩
      have h := h M8 eM8
      have hP : va_P G vwCl (mdW a cs M8 L) H := by rw [eM8]; exact hP
      have hD : va_D A (mdW a cs M8 L) := by rw [eM8]; exact hD
      refine lv_iconst (v := 1) hx hb dX5_from_100 (by decide) ?_
      exact rt_Wi hx hb hr hlk dX5_from_101 (M8, L) hP hD hS h
    · have h := h.2 ct
      refine lv_aload_n hx hb dX5_from_21 rfl (lv_at hl 0 rfl) ?_
      refine wi_allM (rn_V (rest := []) (ci := 3) hx hb hml hown hT hl.1 hC hS hP hD 0 rfl rfl rfl ck_X5_129 (c_X5_no l G cs ts a H.size M L  _ h) ⟨rfl, rfl, (Nat.le_of_ble_eq_true rfl), (Nat.le_of_ble_eq_true rfl)⟩ ⟨Nat.le_refl _, Nat.le_refl _⟩ rfl rfl (Nat.le_of_ble_eq_true rfl) dX5_from_22) hD hS hA (fun r11 M12 L13 H locs hP hD hS h => ?_)
      exact rt_Wi hx hb hr hlk dX5_from_25 (M12, L13) hP hD hS h
  · have h := h.2 ct
    refine lv_aload_n hx hb dX5_from_7 rfl (lv_at hl 0 rfl) ?_
    refine wi_allM (rn_V (rest := []) (ci := 3) hx hb hml hown hT hl.1 hC hS hP hD 0 rfl rfl rfl ck_X5_110 (c_X5_bad l G cs ts a H.size M L  _ h) ⟨rfl, rfl, (Nat.le_of_ble_eq_true rfl), (Nat.le_of_ble_eq_true rfl)⟩ ⟨Nat.le_refl _, Nat.le_refl _⟩ rfl rfl (Nat.le_of_ble_eq_true rfl) dX5_from_8) hD hS hA (fun r14 M15 L16 H locs hP hD hS h => ?_)
    exact rt_Wi hx hb hr hlk dX5_from_11 (M15, L16) hP hD hS h
abbrev rm_X5_status : Room := { frames := 1, cells := 0, slots := 0, locals := 25 }
set_option maxRecDepth 100000 in
set_option maxHeartbeats 4000000 in
theorem c_X5_status (l : Launch) (G : va_G) (cs ts : Nat → Nat) (a : Nat → Nat) (sz : Nat)  (M : ZI) (L : ZL)   (x1 : Int32) (post : Int32 → ZI → ZL → Prop) (h : w_X5_status M L x1 post) : Met l yX5_status [.code yX5_status cX5_status 2 (some .int)] rm_X5_status (va_Pc [.ref (a 99), .int x1] (CP G cs ts (mdW a cs M L) sz)) (va_Qi (fun (r : Int32) (u : ZI × ZL) => post r u.1 u.2) (CB G (va_A (mdW a cs M L) sz) (fun u => (mdW a cs u.1 u.2))) (va_A (mdW a cs M L) sz)) 0 0 (va_A (mdW a cs M L) sz) := by
  refine ax_W (Qc := fun A => va_Qi (fun (r : Int32) (u : ZI × ZL) => post r u.1 u.2) (CB G A (fun u => (mdW a cs u.1 u.2))) A) (by decide) (Nat.le_of_ble_eq_true rfl) sz ?_
  intro p e s m args below meth c A hx hb hr hlk hml hown hT hC hnm H locs hP hD hS ls hl
  have hK := hC.2.1
  have hA := hC.2.2
  have hl : lv_has ls 2 [(0, .ref (a 99)), (1, .int x1)] := hl
  unfold w_X5_status at h
  refine lv_iload_n hx hb dX5_status_0 rfl (lv_at hl 1 rfl) ?_
  refine lv_i2l (v := x1.toInt64) hx hb dX5_status_1 rfl ?_
  refine lv_lconst (v := 0) hx hb dX5_status_2 (by decide) ?_
  refine ki_X5_248 hx hb hT hown dX5_status_3 ?_
  refine cl_Si (rn_S (rest := []) hx hb hml hown hT hl.1 ck_X5_54 (c_X5_in l x1.toInt64 0 2 _ h) ⟨rfl, rfl, (Nat.le_of_ble_eq_true rfl), (Nat.le_of_ble_eq_true rfl)⟩ ⟨Nat.zero_le _, Nat.zero_le _⟩ rfl rfl (Nat.le_of_ble_eq_true rfl) dX5_status_6) (fun r1 h => ?_)
  refine lv_if_ne (tgt := 19) hx hb dX5_status_9 (by decide) (fun ct => ?_) (fun ct => ?_)
  · have h := h.1 ct
    refine lv_aload_n hx hb dX5_status_19 rfl (lv_at hl 0 rfl) ?_
    refine gf_X5_17 hx hb hT hown hK hP 0 rfl rfl dX5_status_20 ?_
    refine lv_iload_n hx hb dX5_status_23 rfl (lv_at hl 1 rfl) ?_
    obtain ⟨hi, h⟩ := h
    refine va_iald hx hb hK hP 2 0 rfl rfl hi dX5_status_24 ?_
    exact rt_Wi hx hb hr hlk dX5_status_25 (M, L) hP hD hS h
  · have h := h.2 ct
    refine lv_aload_n hx hb dX5_status_12 rfl (lv_at hl 0 rfl) ?_
    refine wi_allM (rn_V (rest := []) (ci := 3) hx hb hml hown hT hl.1 hC hS hP hD 0 rfl rfl rfl ck_X5_110 (c_X5_bad l G cs ts a H.size M L  _ h) ⟨rfl, rfl, (Nat.le_of_ble_eq_true rfl), (Nat.le_of_ble_eq_true rfl)⟩ ⟨Nat.le_refl _, Nat.le_refl _⟩ rfl rfl (Nat.le_of_ble_eq_true rfl) dX5_status_13) hD hS hA (fun r2 M3 L4 H locs hP hD hS h => ?_)
    refine lv_pop hx hb dX5_status_16 rfl ?_
    refine lv_iconst (v := (-1)) hx hb dX5_status_17 (by decide) ?_
    exact rt_Wi hx hb hr hlk dX5_status_18 (M3, L4) hP hD hS h
abbrev rm_X5_countOf : Room := { frames := 1, cells := 0, slots := 0, locals := 22 }
set_option maxRecDepth 100000 in
set_option maxHeartbeats 4000000 in
theorem c_X5_countOf (l : Launch) (G : va_G) (cs ts : Nat → Nat) (a : Nat → Nat) (sz : Nat)  (M : ZI) (L : ZL)   (x1 : Int32) (post : Int32 → ZI → ZL → Prop) (h : w_X5_countOf M L x1 post) : Met l yX5_countOf [.code yX5_countOf cX5_countOf 2 (some .int)] rm_X5_countOf (va_Pc [.ref (a 99), .int x1] (CP G cs ts (mdW a cs M L) sz)) (va_Qi (fun (r : Int32) (u : ZI × ZL) => post r u.1 u.2) (CB G (va_A (mdW a cs M L) sz) (fun u => (mdW a cs u.1 u.2))) (va_A (mdW a cs M L) sz)) 0 0 (va_A (mdW a cs M L) sz) := by
  refine ax_W (Qc := fun A => va_Qi (fun (r : Int32) (u : ZI × ZL) => post r u.1 u.2) (CB G A (fun u => (mdW a cs u.1 u.2))) A) (by decide) (Nat.le_of_ble_eq_true rfl) sz ?_
  intro p e s m args below meth c A hx hb hr hlk hml hown hT hC hnm H locs hP hD hS ls hl
  have hK := hC.2.1
  have hA := hC.2.2
  have hl : lv_has ls 2 [(0, .ref (a 99)), (1, .int x1)] := hl
  unfold w_X5_countOf at h
  refine lv_iload_n hx hb dX5_countOf_0 rfl (lv_at hl 1 rfl) ?_
  refine lv_if_ne (tgt := 11) hx hb dX5_countOf_1 (by decide) (fun ct => ?_) (fun ct => ?_)
  · have h := h.1 ct
    refine lv_iload_n hx hb dX5_countOf_11 rfl (lv_at hl 1 rfl) ?_
    refine lv_iconst (v := 1) hx hb dX5_countOf_12 (by decide) ?_
    refine lv_icmp_ne (tgt := 26) hx hb dX5_countOf_13 (by decide) (fun ct => ?_) (fun ct => ?_)
    · have h := h.1 ct
      refine lv_iload_n hx hb dX5_countOf_26 rfl (lv_at hl 1 rfl) ?_
      refine lv_iconst (v := 2) hx hb dX5_countOf_27 (by decide) ?_
      refine lv_icmp_ne (tgt := 41) hx hb dX5_countOf_28 (by decide) (fun ct => ?_) (fun ct => ?_)
      · have h := h.1 ct
        refine lv_iload_n hx hb dX5_countOf_41 rfl (lv_at hl 1 rfl) ?_
        refine lv_iconst (v := 3) hx hb dX5_countOf_42 (by decide) ?_
        refine lv_icmp_ne (tgt := 56) hx hb dX5_countOf_43 (by decide) (fun ct => ?_) (fun ct => ?_)
        · have h := h.1 ct
          refine lv_iload_n hx hb dX5_countOf_56 rfl (lv_at hl 1 rfl) ?_
          refine lv_iconst (v := 4) hx hb dX5_countOf_57 (by decide) ?_
          refine lv_icmp_ne (tgt := 68) hx hb dX5_countOf_58 (by decide) (fun ct => ?_) (fun ct => ?_)
          · have h := h.1 ct
            refine lv_aload_n hx hb dX5_countOf_68 rfl (lv_at hl 0 rfl) ?_
            refine gf_X5_138 hx hb hT hown hK hP 0 rfl rfl dX5_countOf_69 ?_
            exact rt_Wi hx hb hr hlk dX5_countOf_72 (M, L) hP hD hS h
          · have h := h.2 ct
            refine lv_aload_n hx hb dX5_countOf_61 rfl (lv_at hl 0 rfl) ?_
            refine gf_X5_104 hx hb hT hown hK hP 0 rfl rfl dX5_countOf_62 ?_
            refine lv_goto (tgt := 72) hx hb dX5_countOf_65 (by decide) ?_
            exact rt_Wi hx hb hr hlk dX5_countOf_72 (M, L) hP hD hS h
        · have h := h.2 ct
          refine lv_aload_n hx hb dX5_countOf_46 rfl (lv_at hl 0 rfl) ?_
          refine gf_X5_7 hx hb hT hown hK hP 0 rfl rfl dX5_countOf_47 ?_
          refine lv_bipush (v := 76) hx hb dX5_countOf_50 (by decide) ?_
          have hi : vp_in 76 99 := by unfold vp_in; decide
          refine va_iald hx hb hK hP 1 0 rfl rfl hi dX5_countOf_52 ?_
          refine lv_goto (tgt := 72) hx hb dX5_countOf_53 (by decide) ?_
          exact rt_Wi hx hb hr hlk dX5_countOf_72 (M, L) hP hD hS h
      · have h := h.2 ct
        refine lv_aload_n hx hb dX5_countOf_31 rfl (lv_at hl 0 rfl) ?_
        refine gf_X5_7 hx hb hT hown hK hP 0 rfl rfl dX5_countOf_32 ?_
        refine lv_bipush (v := 67) hx hb dX5_countOf_35 (by decide) ?_
        have hi : vp_in 67 99 := by unfold vp_in; decide
        refine va_iald hx hb hK hP 1 0 rfl rfl hi dX5_countOf_37 ?_
        refine lv_goto (tgt := 72) hx hb dX5_countOf_38 (by decide) ?_
        exact rt_Wi hx hb hr hlk dX5_countOf_72 (M, L) hP hD hS h
    · have h := h.2 ct
      refine lv_aload_n hx hb dX5_countOf_16 rfl (lv_at hl 0 rfl) ?_
      refine gf_X5_7 hx hb hT hown hK hP 0 rfl rfl dX5_countOf_17 ?_
      refine lv_bipush (v := 64) hx hb dX5_countOf_20 (by decide) ?_
      have hi : vp_in 64 99 := by unfold vp_in; decide
      refine va_iald hx hb hK hP 1 0 rfl rfl hi dX5_countOf_22 ?_
      refine lv_goto (tgt := 72) hx hb dX5_countOf_23 (by decide) ?_
      exact rt_Wi hx hb hr hlk dX5_countOf_72 (M, L) hP hD hS h
  · have h := h.2 ct
    refine lv_aload_n hx hb dX5_countOf_4 rfl (lv_at hl 0 rfl) ?_
    refine wi_allM (rn_V (rest := []) (ci := 3) hx hb hml hown hT hl.1 hC hS hP hD 0 rfl rfl rfl ck_X5_113 (c_X5_darkMany l G cs ts a H.size M L  _ h) ⟨rfl, rfl, (Nat.le_of_ble_eq_true rfl), (Nat.le_of_ble_eq_true rfl)⟩ ⟨Nat.le_refl _, Nat.le_refl _⟩ rfl rfl (Nat.le_of_ble_eq_true rfl) dX5_countOf_5) hD hS hA (fun r1 M2 L3 H locs hP hD hS h => ?_)
    refine lv_goto (tgt := 72) hx hb dX5_countOf_8 (by decide) ?_
    exact rt_Wi hx hb hr hlk dX5_countOf_72 (M2, L3) hP hD hS h
abbrev rm_X5_count : Room := { frames := 2, cells := 0, slots := 0, locals := 43 }
set_option maxRecDepth 100000 in
set_option maxHeartbeats 4000000 in
theorem c_X5_count (l : Launch) (G : va_G) (cs ts : Nat → Nat) (a : Nat → Nat) (sz : Nat)  (M : ZI) (L : ZL)   (x1 : Int32) (post : Int32 → ZI → ZL → Prop) (h : w_X5_count M L x1 post) : Met l yX5_count [.code yX5_count cX5_count 2 (some .int)] rm_X5_count (va_Pc [.ref (a 99), .int x1] (CP G cs ts (mdW a cs M L) sz)) (va_Qi (fun (r : Int32) (u : ZI × ZL) => post r u.1 u.2) (CB G (va_A (mdW a cs M L) sz) (fun u => (mdW a cs u.1 u.2))) (va_A (mdW a cs M L) sz)) 0 0 (va_A (mdW a cs M L) sz) := by
  refine ax_W (Qc := fun A => va_Qi (fun (r : Int32) (u : ZI × ZL) => post r u.1 u.2) (CB G A (fun u => (mdW a cs u.1 u.2))) A) (by decide) (Nat.le_of_ble_eq_true rfl) sz ?_
  intro p e s m args below meth c A hx hb hr hlk hml hown hT hC hnm H locs hP hD hS ls hl
  have hK := hC.2.1
  have hA := hC.2.2
  have hl : lv_has ls 2 [(0, .ref (a 99)), (1, .int x1)] := hl
  unfold w_X5_count at h
  refine lv_iload_n hx hb dX5_count_0 rfl (lv_at hl 1 rfl) ?_
  refine lv_i2l (v := x1.toInt64) hx hb dX5_count_1 rfl ?_
  refine lv_lconst (v := 0) hx hb dX5_count_2 (by decide) ?_
  refine ki_X5_60 hx hb hT hown dX5_count_3 ?_
  refine cl_Si (rn_S (rest := []) hx hb hml hown hT hl.1 ck_X5_54 (c_X5_in l x1.toInt64 0 5 _ h) ⟨rfl, rfl, (Nat.le_of_ble_eq_true rfl), (Nat.le_of_ble_eq_true rfl)⟩ ⟨Nat.zero_le _, Nat.zero_le _⟩ rfl rfl (Nat.le_of_ble_eq_true rfl) dX5_count_6) (fun r1 h => ?_)
  refine lv_if_eq (tgt := 20) hx hb dX5_count_9 (by decide) (fun ct => ?_) (fun ct => ?_)
  · have h := h.1 ct
    refine lv_aload_n hx hb dX5_count_20 rfl (lv_at hl 0 rfl) ?_
    refine wi_allM (rn_V (rest := []) (ci := 3) hx hb hml hown hT hl.1 hC hS hP hD 0 rfl rfl rfl ck_X5_110 (c_X5_bad l G cs ts a H.size M L  _ h) ⟨rfl, rfl, (Nat.le_of_ble_eq_true rfl), (Nat.le_of_ble_eq_true rfl)⟩ ⟨Nat.le_refl _, Nat.le_refl _⟩ rfl rfl (Nat.le_of_ble_eq_true rfl) dX5_count_21) hD hS hA (fun r2 M3 L4 H locs hP hD hS h => ?_)
    exact rt_Wi hx hb hr hlk dX5_count_24 (M3, L4) hP hD hS h
  · have h := h.2 ct
    refine lv_aload_n hx hb dX5_count_12 rfl (lv_at hl 0 rfl) ?_
    refine lv_iload_n hx hb dX5_count_13 rfl (lv_at hl 1 rfl) ?_
    refine wi_allM (rn_V (rest := []) (ci := 3) hx hb hml hown hT hl.1 hC hS hP hD 0 rfl rfl rfl ck_X5_250 (c_X5_countOf l G cs ts a H.size M L x1 _ h) ⟨rfl, rfl, (Nat.le_of_ble_eq_true rfl), (Nat.le_of_ble_eq_true rfl)⟩ ⟨Nat.le_refl _, Nat.le_refl _⟩ rfl rfl (Nat.le_of_ble_eq_true rfl) dX5_count_14) hD hS hA (fun r5 M6 L7 H locs hP hD hS h => ?_)
    refine lv_goto (tgt := 24) hx hb dX5_count_17 (by decide) ?_
    exact rt_Wi hx hb hr hlk dX5_count_24 (M6, L7) hP hD hS h
abbrev rm_X5_digest : Room := { frames := 2, cells := 0, slots := 0, locals := 43 }
set_option maxRecDepth 100000 in
set_option maxHeartbeats 4000000 in
theorem c_X5_digest (l : Launch) (G : va_G) (cs ts : Nat → Nat) (a : Nat → Nat) (sz : Nat)  (M : ZI) (L : ZL)    (post : Int64 → ZI → ZL → Prop) (h : w_X5_digest M L post) : Met l yX5_digest [.code yX5_digest cX5_digest 4 (some .long)] rm_X5_digest (va_Pc [.ref (a 99)] (CP G cs ts (mdW a cs M L) sz)) (va_Ql (fun (r : Int64) (u : ZI × ZL) => post r u.1 u.2) (CB G (va_A (mdW a cs M L) sz) (fun u => (mdW a cs u.1 u.2))) (va_A (mdW a cs M L) sz)) 0 0 (va_A (mdW a cs M L) sz) := by
  refine ax_W (Qc := fun A => va_Ql (fun (r : Int64) (u : ZI × ZL) => post r u.1 u.2) (CB G A (fun u => (mdW a cs u.1 u.2))) A) (by decide) (Nat.le_of_ble_eq_true rfl) sz ?_
  intro p e s m args below meth c A hx hb hr hlk hml hown hT hC hnm H locs hP hD hS ls hl
  have hK := hC.2.1
  have hA := hC.2.2
  have hl : lv_has ls 4 [(0, .ref (a 99))] := hl
  unfold w_X5_digest at h
  have HL6 : ∀ (K : ZI → ZL → Int64 → Int32 → Prop), (∀ (Mv : ZI) (Lv : ZL) (y1 : Int64) (y3 : Int32), K Mv Lv y1 y3 → ∀ (H : Heap) (locs : List Loc), va_P G vwCl (mdW a cs Mv Lv) H → va_D A (mdW a cs Mv Lv) → va_S A s.heap H locs → ∀ ls : Array Slot, lv_has ls 4 [(0, .ref (a 99)), (1, .long y1), (3, .int y3)] → W p l e rm_X5_digest s m args below meth c H locs 0 0 (MQ below (va_Ql (fun (r : Int64) (u : ZI × ZL) => post r u.1 u.2) (CB G A (fun u => (mdW a cs u.1 u.2))) A) args s 0 0 A) (F0 m 31 ls [])) → ∀ (n : Nat) (Mv : ZI) (Lv : ZL) (y1 : Int64) (y3 : Int32), itF (w_X5_digest_L6  post K) (fun _ _ _ _ => False) n Mv Lv y1 y3 → ∀ (H : Heap) (locs : List Loc), va_P G vwCl (mdW a cs Mv Lv) H → va_D A (mdW a cs Mv Lv) → va_S A s.heap H locs → ∀ ls : Array Slot, lv_has ls 4 [(0, .ref (a 99)), (1, .long y1), (3, .int y3)] → W p l e rm_X5_digest s m args below meth c H locs 0 0 (MQ below (va_Ql (fun (r : Int64) (u : ZI × ZL) => post r u.1 u.2) (CB G A (fun u => (mdW a cs u.1 u.2))) A) args s 0 0 A) (F0 m 6 ls []) := by
    intro K hKK n
    induction n with
    | zero =>
      intro Mv Lv y1 y3 h
      exact absurd h id
    | succ n ih =>
      intro Mv Lv y1 y3 h H locs hP hD hS ls hl
      have h : w_X5_digest_L6  post K (itF (w_X5_digest_L6  post K) (fun _ _ _ _ => False) n) Mv Lv y1 y3 := h
      generalize itF (w_X5_digest_L6  post K) (fun _ _ _ _ => False) n = rec at h ih
      unfold w_X5_digest_L6 at h
      refine lv_iload_n hx hb dX5_digest_6 rfl (lv_at hl 2 rfl) ?_
      refine lv_bipush (v := 6) hx hb dX5_digest_7 (by decide) ?_
      refine lv_icmp_ge (tgt := 31) hx hb dX5_digest_9 (by decide) (fun ct => ?_) (fun ct => ?_)
      · have h := h.1 ct
        exact hKK _ _ _ _ h _ _ hP hD hS ls (lv_sub hl [0, 1, 2] rfl)
      · have h := h.2 ct
        refine ki_X5_255 hx hb hT hown dX5_digest_12 ?_
        refine lv_lload_n hx hb dX5_digest_15 rfl (lv_at hl 1 rfl) ?_
        refine lv_lmul hx hb dX5_digest_16 ?_
        refine lv_aload_n hx hb dX5_digest_17 rfl (lv_at hl 0 rfl) ?_
        refine lv_iload_n hx hb dX5_digest_18 rfl (lv_at hl 2 rfl) ?_
        refine wi_allM (rn_V (rest := [.long (31 * y1)]) (ci := 3) hx hb hml hown hT hl.1 hC hS hP hD 0 rfl rfl rfl ck_X5_250 (c_X5_countOf l G cs ts a H.size Mv Lv y3 _ h) ⟨rfl, rfl, (Nat.le_of_ble_eq_true rfl), (Nat.le_of_ble_eq_true rfl)⟩ ⟨Nat.le_refl _, Nat.le_refl _⟩ rfl rfl (Nat.le_of_ble_eq_true rfl) dX5_digest_19) hD hS hA (fun r1 M2 L3 H locs hP hD hS h => ?_)
        refine lv_i2l (v := r1.toInt64) hx hb dX5_digest_22 rfl ?_
        refine lv_ladd hx hb dX5_digest_23 ?_
        refine lv_topl (fun v4 ev4 => ?_)
        have h := h v4 ev4
        refine lv_lstore_n (lv' := [(1, .long v4), (0, .ref (a 99)), (3, .int y3)]) hx hb dX5_digest_24 rfl hl (by decide) rfl (fun ls hl => ?_)
        refine lv_iinc (v := y3 + 1) (lv' := [(3, .int (y3 + 1)), (1, .long v4), (0, .ref (a 99))]) hx hb dX5_digest_25 hl (k := 2) rfl rfl (by decide) rfl (fun ls hl => ?_)
        refine lv_goto (tgt := 6) hx hb dX5_digest_28 (by decide) ?_
        exact ih _ _ _ _ h _ _ hP hD hS ls (lv_sub hl [2, 1, 0] rfl)
  have HL63 : ∀ (Mf : ZI) (Lf : ZL)  (K : Int64 → Int32 → Prop), (∀  (y1 : Int64) (y3 : Int32), K y1 y3 → ∀ (H : Heap) (locs : List Loc), va_P G vwCl (mdW a cs Mf Lf) H → va_D A (mdW a cs Mf Lf) → va_S A s.heap H locs → ∀ ls : Array Slot, lv_has ls 4 [(0, .ref (a 99)), (1, .long y1), (3, .int y3)] → W p l e rm_X5_digest s m args below meth c H locs 0 0 (MQ below (va_Ql (fun (r : Int64) (u : ZI × ZL) => post r u.1 u.2) (CB G A (fun u => (mdW a cs u.1 u.2))) A) args s 0 0 A) (F0 m 91 ls [])) → ∀ (n : Nat)  (y1 : Int64) (y3 : Int32), itF (w_X5_digest_L63 Mf Lf post K) (fun _ _ => False) n y1 y3 → ∀ (H : Heap) (locs : List Loc), va_P G vwCl (mdW a cs Mf Lf) H → va_D A (mdW a cs Mf Lf) → va_S A s.heap H locs → ∀ ls : Array Slot, lv_has ls 4 [(0, .ref (a 99)), (1, .long y1), (3, .int y3)] → W p l e rm_X5_digest s m args below meth c H locs 0 0 (MQ below (va_Ql (fun (r : Int64) (u : ZI × ZL) => post r u.1 u.2) (CB G A (fun u => (mdW a cs u.1 u.2))) A) args s 0 0 A) (F0 m 63 ls []) := by
    intro Mf Lf K hKK n
    induction n with
    | zero =>
      intro y1 y3 h
      exact absurd h id
    | succ n ih =>
      intro y1 y3 h H locs hP hD hS ls hl
      have h : w_X5_digest_L63 Mf Lf post K (itF (w_X5_digest_L63 Mf Lf post K) (fun _ _ => False) n) y1 y3 := h
      generalize itF (w_X5_digest_L63 Mf Lf post K) (fun _ _ => False) n = rec at h ih
      unfold w_X5_digest_L63 at h
      refine lv_iload_n hx hb dX5_digest_63 rfl (lv_at hl 2 rfl) ?_
      refine lv_bipush (v := 64) hx hb dX5_digest_64 (by decide) ?_
      refine lv_icmp_ge (tgt := 91) hx hb dX5_digest_66 (by decide) (fun ct => ?_) (fun ct => ?_)
      · have h := h.1 ct
        exact hKK _ _ h _ _ hP hD hS ls (lv_sub hl [0, 1, 2] rfl)
      · have h := h.2 ct
        refine ki_X5_255 hx hb hT hown dX5_digest_69 ?_
        refine lv_lload_n hx hb dX5_digest_72 rfl (lv_at hl 1 rfl) ?_
        refine lv_lmul hx hb dX5_digest_73 ?_
        refine lv_aload_n hx hb dX5_digest_74 rfl (lv_at hl 0 rfl) ?_
        refine gf_X5_7 hx hb hT hown hK hP 0 rfl rfl dX5_digest_75 ?_
        refine lv_iconst (v := 0) hx hb dX5_digest_78 (by decide) ?_
        refine lv_iload_n hx hb dX5_digest_79 rfl (lv_at hl 2 rfl) ?_
        refine lv_iadd hx hb dX5_digest_80 ?_
        obtain ⟨hi, h⟩ := h
        refine va_iald hx hb hK hP 1 0 rfl rfl hi dX5_digest_81 ?_
        refine lv_i2l (v := (Mf 0 (0 + y3).toNatClampNeg).toInt64) hx hb dX5_digest_82 rfl ?_
        refine lv_ladd hx hb dX5_digest_83 ?_
        refine lv_topl (fun v11 ev11 => ?_)
        have h := h v11 ev11
        refine lv_lstore_n (lv' := [(1, .long v11), (0, .ref (a 99)), (3, .int y3)]) hx hb dX5_digest_84 rfl hl (by decide) rfl (fun ls hl => ?_)
        refine lv_iinc (v := y3 + 1) (lv' := [(3, .int (y3 + 1)), (1, .long v11), (0, .ref (a 99))]) hx hb dX5_digest_85 hl (k := 2) rfl rfl (by decide) rfl (fun ls hl => ?_)
        refine lv_goto (tgt := 63) hx hb dX5_digest_88 (by decide) ?_
        exact ih _ _ h _ _ hP hD hS ls (lv_sub hl [2, 1, 0] rfl)
  have HL93 : ∀ (Mf : ZI) (Lf : ZL)  (K : Int64 → Int32 → Prop), (∀  (y1 : Int64) (y3 : Int32), K y1 y3 → ∀ (H : Heap) (locs : List Loc), va_P G vwCl (mdW a cs Mf Lf) H → va_D A (mdW a cs Mf Lf) → va_S A s.heap H locs → ∀ ls : Array Slot, lv_has ls 4 [(0, .ref (a 99)), (1, .long y1), (3, .int y3)] → W p l e rm_X5_digest s m args below meth c H locs 0 0 (MQ below (va_Ql (fun (r : Int64) (u : ZI × ZL) => post r u.1 u.2) (CB G A (fun u => (mdW a cs u.1 u.2))) A) args s 0 0 A) (F0 m 127 ls [])) → ∀ (n : Nat)  (y1 : Int64) (y3 : Int32), itF (w_X5_digest_L93 Mf Lf post K) (fun _ _ => False) n y1 y3 → ∀ (H : Heap) (locs : List Loc), va_P G vwCl (mdW a cs Mf Lf) H → va_D A (mdW a cs Mf Lf) → va_S A s.heap H locs → ∀ ls : Array Slot, lv_has ls 4 [(0, .ref (a 99)), (1, .long y1), (3, .int y3)] → W p l e rm_X5_digest s m args below meth c H locs 0 0 (MQ below (va_Ql (fun (r : Int64) (u : ZI × ZL) => post r u.1 u.2) (CB G A (fun u => (mdW a cs u.1 u.2))) A) args s 0 0 A) (F0 m 93 ls []) := by
    intro Mf Lf K hKK n
    induction n with
    | zero =>
      intro y1 y3 h
      exact absurd h id
    | succ n ih =>
      intro y1 y3 h H locs hP hD hS ls hl
      have h : w_X5_digest_L93 Mf Lf post K (itF (w_X5_digest_L93 Mf Lf post K) (fun _ _ => False) n) y1 y3 := h
      generalize itF (w_X5_digest_L93 Mf Lf post K) (fun _ _ => False) n = rec at h ih
      unfold w_X5_digest_L93 at h
      refine lv_iload_n hx hb dX5_digest_93 rfl (lv_at hl 2 rfl) ?_
      refine lv_aload_n hx hb dX5_digest_94 rfl (lv_at hl 0 rfl) ?_
      refine gf_X5_7 hx hb hT hown hK hP 0 rfl rfl dX5_digest_95 ?_
      refine lv_bipush (v := 67) hx hb dX5_digest_98 (by decide) ?_
      have hi : vp_in 67 99 := by unfold vp_in; decide
      refine va_iald hx hb hK hP 1 0 rfl rfl hi dX5_digest_100 ?_
      refine lv_icmp_ge (tgt := 127) hx hb dX5_digest_101 (by decide) (fun ct => ?_) (fun ct => ?_)
      · have h := h.1 ct
        exact hKK _ _ h _ _ hP hD hS ls (lv_sub hl [0, 1, 2] rfl)
      · have h := h.2 ct
        refine ki_X5_255 hx hb hT hown dX5_digest_104 ?_
        refine lv_lload_n hx hb dX5_digest_107 rfl (lv_at hl 1 rfl) ?_
        refine lv_lmul hx hb dX5_digest_108 ?_
        refine lv_aload_n hx hb dX5_digest_109 rfl (lv_at hl 0 rfl) ?_
        refine gf_X5_7 hx hb hT hown hK hP 0 rfl rfl dX5_digest_110 ?_
        refine lv_bipush (v := 68) hx hb dX5_digest_113 (by decide) ?_
        refine lv_iload_n hx hb dX5_digest_115 rfl (lv_at hl 2 rfl) ?_
        refine lv_iadd hx hb dX5_digest_116 ?_
        obtain ⟨hi, h⟩ := h
        refine va_iald hx hb hK hP 1 0 rfl rfl hi dX5_digest_117 ?_
        refine lv_i2l (v := (Mf 0 (68 + y3).toNatClampNeg).toInt64) hx hb dX5_digest_118 rfl ?_
        refine lv_ladd hx hb dX5_digest_119 ?_
        refine lv_topl (fun v14 ev14 => ?_)
        have h := h v14 ev14
        refine lv_lstore_n (lv' := [(1, .long v14), (0, .ref (a 99)), (3, .int y3)]) hx hb dX5_digest_120 rfl hl (by decide) rfl (fun ls hl => ?_)
        refine lv_iinc (v := y3 + 1) (lv' := [(3, .int (y3 + 1)), (1, .long v14), (0, .ref (a 99))]) hx hb dX5_digest_121 hl (k := 2) rfl rfl (by decide) rfl (fun ls hl => ?_)
        refine lv_goto (tgt := 93) hx hb dX5_digest_124 (by decide) ?_
        exact ih _ _ h _ _ hP hD hS ls (lv_sub hl [2, 1, 0] rfl)
  have HL129 : ∀ (Mf : ZI) (Lf : ZL)  (K : Int64 → Int32 → Prop), (∀  (y1 : Int64) (y3 : Int32), K y1 y3 → ∀ (H : Heap) (locs : List Loc), va_P G vwCl (mdW a cs Mf Lf) H → va_D A (mdW a cs Mf Lf) → va_S A s.heap H locs → ∀ ls : Array Slot, lv_has ls 4 [(0, .ref (a 99)), (1, .long y1), (3, .int y3)] → W p l e rm_X5_digest s m args below meth c H locs 0 0 (MQ below (va_Ql (fun (r : Int64) (u : ZI × ZL) => post r u.1 u.2) (CB G A (fun u => (mdW a cs u.1 u.2))) A) args s 0 0 A) (F0 m 184 ls [])) → ∀ (n : Nat)  (y1 : Int64) (y3 : Int32), itF (w_X5_digest_L129 Mf Lf post K) (fun _ _ => False) n y1 y3 → ∀ (H : Heap) (locs : List Loc), va_P G vwCl (mdW a cs Mf Lf) H → va_D A (mdW a cs Mf Lf) → va_S A s.heap H locs → ∀ ls : Array Slot, lv_has ls 4 [(0, .ref (a 99)), (1, .long y1), (3, .int y3)] → W p l e rm_X5_digest s m args below meth c H locs 0 0 (MQ below (va_Ql (fun (r : Int64) (u : ZI × ZL) => post r u.1 u.2) (CB G A (fun u => (mdW a cs u.1 u.2))) A) args s 0 0 A) (F0 m 129 ls []) := by
    intro Mf Lf K hKK n
    induction n with
    | zero =>
      intro y1 y3 h
      exact absurd h id
    | succ n ih =>
      intro y1 y3 h H locs hP hD hS ls hl
      have h : w_X5_digest_L129 Mf Lf post K (itF (w_X5_digest_L129 Mf Lf post K) (fun _ _ => False) n) y1 y3 := h
      generalize itF (w_X5_digest_L129 Mf Lf post K) (fun _ _ => False) n = rec at h ih
      unfold w_X5_digest_L129 at h
      refine lv_iload_n hx hb dX5_digest_129 rfl (lv_at hl 2 rfl) ?_
      refine lv_aload_n hx hb dX5_digest_130 rfl (lv_at hl 0 rfl) ?_
      refine gf_X5_7 hx hb hT hown hK hP 0 rfl rfl dX5_digest_131 ?_
      refine lv_bipush (v := 76) hx hb dX5_digest_134 (by decide) ?_
      have hi : vp_in 76 99 := by unfold vp_in; decide
      refine va_iald hx hb hK hP 1 0 rfl rfl hi dX5_digest_136 ?_
      refine lv_icmp_ge (tgt := 184) hx hb dX5_digest_137 (by decide) (fun ct => ?_) (fun ct => ?_)
      · have h := h.1 ct
        exact hKK _ _ h _ _ hP hD hS ls (lv_sub hl [0, 1, 2] rfl)
      · have h := h.2 ct
        refine ki_X5_255 hx hb hT hown dX5_digest_140 ?_
        refine lv_lload_n hx hb dX5_digest_143 rfl (lv_at hl 1 rfl) ?_
        refine lv_lmul hx hb dX5_digest_144 ?_
        refine lv_aload_n hx hb dX5_digest_145 rfl (lv_at hl 0 rfl) ?_
        refine gf_X5_7 hx hb hT hown hK hP 0 rfl rfl dX5_digest_146 ?_
        refine lv_bipush (v := 77) hx hb dX5_digest_149 (by decide) ?_
        refine lv_iload_n hx hb dX5_digest_151 rfl (lv_at hl 2 rfl) ?_
        refine lv_iadd hx hb dX5_digest_152 ?_
        obtain ⟨hi, h⟩ := h
        refine va_iald hx hb hK hP 1 0 rfl rfl hi dX5_digest_153 ?_
        refine lv_iconst (v := 2) hx hb dX5_digest_154 (by decide) ?_
        refine lv_idiv hx hb dX5_digest_155 (by decide) ?_
        refine lv_i2l (v := ((Mf 0 (77 + y3).toNatClampNeg) / 2).toInt64) hx hb dX5_digest_156 rfl ?_
        refine lv_ladd hx hb dX5_digest_157 ?_
        refine lv_topl (fun v17 ev17 => ?_)
        have h := h v17 ev17
        refine lv_lstore_n (lv' := [(1, .long v17), (0, .ref (a 99)), (3, .int y3)]) hx hb dX5_digest_158 rfl hl (by decide) rfl (fun ls hl => ?_)
        refine ki_X5_255 hx hb hT hown dX5_digest_159 ?_
        refine lv_lload_n hx hb dX5_digest_162 rfl (lv_at hl 0 rfl) ?_
        refine lv_lmul hx hb dX5_digest_163 ?_
        refine lv_aload_n hx hb dX5_digest_164 rfl (lv_at hl 1 rfl) ?_
        refine gf_X5_7 hx hb hT hown hK hP 0 rfl rfl dX5_digest_165 ?_
        refine lv_bipush (v := 77) hx hb dX5_digest_168 (by decide) ?_
        refine lv_iload_n hx hb dX5_digest_170 rfl (lv_at hl 2 rfl) ?_
        refine lv_iadd hx hb dX5_digest_171 ?_
        obtain ⟨hi, h⟩ := h
        refine va_iald hx hb hK hP 1 0 rfl rfl hi dX5_digest_172 ?_
        refine lv_iconst (v := 2) hx hb dX5_digest_173 (by decide) ?_
        refine lv_irem hx hb dX5_digest_174 (by decide) ?_
        refine lv_i2l (v := (jrem (Mf 0 (77 + y3).toNatClampNeg) 2).toInt64) hx hb dX5_digest_175 rfl ?_
        refine lv_ladd hx hb dX5_digest_176 ?_
        refine lv_topl (fun v18 ev18 => ?_)
        have h := h v18 ev18
        refine lv_lstore_n (lv' := [(1, .long v18), (0, .ref (a 99)), (3, .int y3)]) hx hb dX5_digest_177 rfl hl (by decide) rfl (fun ls hl => ?_)
        refine lv_iinc (v := y3 + 1) (lv' := [(3, .int (y3 + 1)), (1, .long v18), (0, .ref (a 99))]) hx hb dX5_digest_178 hl (k := 2) rfl rfl (by decide) rfl (fun ls hl => ?_)
        refine lv_goto (tgt := 129) hx hb dX5_digest_181 (by decide) ?_
        exact ih _ _ h _ _ hP hD hS ls (lv_sub hl [2, 1, 0] rfl)
  refine ki_X5_253 hx hb hT hown dX5_digest_0 ?_
  refine lv_lstore_n (lv' := [(1, .long 1021), (0, .ref (a 99))]) hx hb dX5_digest_3 rfl hl (by decide) rfl (fun ls hl => ?_)
  refine lv_iconst (v := 0) hx hb dX5_digest_4 (by decide) ?_
  refine lv_istore_n (lv' := [(3, .int 0), (1, .long 1021), (0, .ref (a 99))]) hx hb dX5_digest_5 rfl hl (by decide) rfl (fun ls hl => ?_)
  obtain ⟨n25, h⟩ := h
  refine HL6  _ (fun M5 L6 v7 v8 h H locs hP hD hS ls hl => ?_) n25 _ _ _ _ h _ _ hP hD hS ls (lv_sub hl [2, 1, 0] rfl)
  refine ki_X5_255 hx hb hT hown dX5_digest_31 ?_
  refine lv_lload_n hx hb dX5_digest_34 rfl (lv_at hl 1 rfl) ?_
  refine lv_lmul hx hb dX5_digest_35 ?_
  refine lv_aload_n hx hb dX5_digest_36 rfl (lv_at hl 0 rfl) ?_
  refine gf_X5_7 hx hb hT hown hK hP 0 rfl rfl dX5_digest_37 ?_
  refine lv_bipush (v := 65) hx hb dX5_digest_40 (by decide) ?_
  have hi : vp_in 65 99 := by unfold vp_in; decide
  refine va_iald hx hb hK hP 1 0 rfl rfl hi dX5_digest_42 ?_
  refine lv_i2l (v := (M5 0 65).toInt64) hx hb dX5_digest_43 rfl ?_
  refine lv_ladd hx hb dX5_digest_44 ?_
  refine lv_topl (fun v9 ev9 => ?_)
  have h := h v9 ev9
  refine lv_lstore_n (lv' := [(1, .long v9), (0, .ref (a 99)), (3, .int v8)]) hx hb dX5_digest_45 rfl hl (by decide) rfl (fun ls hl => ?_)
  refine ki_X5_255 hx hb hT hown dX5_digest_46 ?_
  refine lv_lload_n hx hb dX5_digest_49 rfl (lv_at hl 0 rfl) ?_
  refine lv_lmul hx hb dX5_digest_50 ?_
  refine lv_aload_n hx hb dX5_digest_51 rfl (lv_at hl 1 rfl) ?_
  refine gf_X5_7 hx hb hT hown hK hP 0 rfl rfl dX5_digest_52 ?_
  refine lv_bipush (v := 66) hx hb dX5_digest_55 (by decide) ?_
  have hi : vp_in 66 99 := by unfold vp_in; decide
  refine va_iald hx hb hK hP 1 0 rfl rfl hi dX5_digest_57 ?_
  refine lv_i2l (v := (M5 0 66).toInt64) hx hb dX5_digest_58 rfl ?_
  refine lv_ladd hx hb dX5_digest_59 ?_
  refine lv_topl (fun v10 ev10 => ?_)
  have h := h v10 ev10
  refine lv_lstore_n (lv' := [(1, .long v10), (0, .ref (a 99)), (3, .int v8)]) hx hb dX5_digest_60 rfl hl (by decide) rfl (fun ls hl => ?_)
  refine lv_iconst (v := 0) hx hb dX5_digest_61 (by decide) ?_
  refine lv_istore_n (lv' := [(3, .int 0), (1, .long v10), (0, .ref (a 99))]) hx hb dX5_digest_62 rfl hl (by decide) rfl (fun ls hl => ?_)
  obtain ⟨n24, h⟩ := h
  refine HL63 _ _ _ (fun v12 v13 h H locs hP hD hS ls hl => ?_) n24 _ _ h _ _ hP hD hS ls (lv_sub hl [2, 1, 0] rfl)
  refine lv_iconst (v := 0) hx hb dX5_digest_91 (by decide) ?_
  refine lv_istore_n (lv' := [(3, .int 0), (0, .ref (a 99)), (1, .long v12)]) hx hb dX5_digest_92 rfl hl (by decide) rfl (fun ls hl => ?_)
  obtain ⟨n23, h⟩ := h
  refine HL93 _ _ _ (fun v15 v16 h H locs hP hD hS ls hl => ?_) n23 _ _ h _ _ hP hD hS ls (lv_sub hl [1, 2, 0] rfl)
  refine lv_iconst (v := 0) hx hb dX5_digest_127 (by decide) ?_
  refine lv_istore_n (lv' := [(3, .int 0), (0, .ref (a 99)), (1, .long v15)]) hx hb dX5_digest_128 rfl hl (by decide) rfl (fun ls hl => ?_)
  obtain ⟨n22, h⟩ := h
  refine HL129 _ _ _ (fun v19 v20 h H locs hP hD hS ls hl => ?_) n22 _ _ h _ _ hP hD hS ls (lv_sub hl [1, 2, 0] rfl)
  refine ki_X5_255 hx hb hT hown dX5_digest_184 ?_
  refine lv_lload_n hx hb dX5_digest_187 rfl (lv_at hl 1 rfl) ?_
  refine lv_lmul hx hb dX5_digest_188 ?_
  refine lv_aload_n hx hb dX5_digest_189 rfl (lv_at hl 0 rfl) ?_
  refine gf_X5_219 hx hb hT hown hK hP 0 rfl rfl dX5_digest_190 ?_
  refine lv_ladd hx hb dX5_digest_193 ?_
  refine lv_topl (fun v21 ev21 => ?_)
  have h := h v21 ev21
  refine lv_lstore_n (lv' := [(1, .long v21), (0, .ref (a 99)), (3, .int v20)]) hx hb dX5_digest_194 rfl hl (by decide) rfl (fun ls hl => ?_)
  refine ki_X5_255 hx hb hT hown dX5_digest_195 ?_
  refine lv_lload_n hx hb dX5_digest_198 rfl (lv_at hl 0 rfl) ?_
  refine lv_lmul hx hb dX5_digest_199 ?_
  refine lv_aload_n hx hb dX5_digest_200 rfl (lv_at hl 1 rfl) ?_
  refine gf_X5_13 hx hb hT hown hK hP 0 rfl rfl dX5_digest_201 ?_
  refine lv_ladd hx hb dX5_digest_204 ?_
  exact rt_Wl hx hb hr hlk dX5_digest_205 (M5, L6) hP hD hS h
