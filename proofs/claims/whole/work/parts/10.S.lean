abbrev rm_X0_darkness : Room := { frames := 1, cells := 0, slots := 0, locals := 21 }
set_option maxRecDepth 100000 in
set_option maxHeartbeats 4000000 in
theorem c_X0_darkness (l : Launch) (x0 : Int32) (x1 : Int32) (post : Int32 → Prop) (h : w_X0_darkness x0 x1 post) : Met l yX0_darkness [.code yX0_darkness cX0_darkness 4 (some .int)] rm_X0_darkness (va_Pc [.int x0, .int x1] TBok) (vp_Si post) 0 0 (fun _ => False) := by
  refine ax_S (by decide) (Nat.le_of_ble_eq_true rfl) ?_
  intro p e s m args below meth c hx hb hr hlk hml hown hT ls hl
  have hl : lv_has ls 4 [(0, .int x0), (1, .int x1)] := hl
  unfold w_X0_darkness at h
  refine lv_iload_n hx hb dX0_darkness_0 rfl (lv_at hl 1 rfl) ?_
  refine lv_bipush (v := 9) hx hb dX0_darkness_1 (by decide) ?_
  refine km_X0_9 hx hb hml hown hT hl.1 (Nat.le_of_ble_eq_true rfl) (Nat.le_of_ble_eq_true rfl) ⟨Nat.zero_le _, Nat.zero_le _⟩ dX0_darkness_3 ?_
  refine lv_topi (fun v1 ev1 => ?_)
  have h := h v1 ev1
  refine lv_istore_n (lv' := [(2, .int v1), (0, .int x0), (1, .int x1)]) hx hb dX0_darkness_6 rfl hl (by decide) rfl (fun ls hl => ?_)
  refine lv_iload_n hx hb dX0_darkness_7 rfl (lv_at hl 0 rfl) ?_
  refine lv_if_gt (tgt := 13) hx hb dX0_darkness_8 (by decide) (fun ct => ?_) (fun ct => ?_)
  · have h := h.1 ct
    refine lv_iload_n hx hb dX0_darkness_13 rfl (lv_at hl 0 rfl) ?_
    refine lv_iconst (v := 2) hx hb dX0_darkness_14 (by decide) ?_
    refine lv_iadd hx hb dX0_darkness_15 ?_
    refine lv_bipush (v := 9) hx hb dX0_darkness_16 (by decide) ?_
    refine km_X0_9 hx hb hml hown hT hl.1 (Nat.le_of_ble_eq_true rfl) (Nat.le_of_ble_eq_true rfl) ⟨Nat.zero_le _, Nat.zero_le _⟩ dX0_darkness_18 ?_
    refine lv_topi (fun v2 ev2 => ?_)
    have h := h v2 ev2
    refine lv_istore_n (lv' := [(3, .int v2), (2, .int v1), (0, .int x0), (1, .int x1)]) hx hb dX0_darkness_21 rfl hl (by decide) rfl (fun ls hl => ?_)
    refine lv_iload_n hx hb dX0_darkness_22 rfl (lv_at hl 2 rfl) ?_
    by_cases c0 : x0 = 1
    · have h := h.1 c0
      refine lv_tableIn (tgt := 56) (off := 33) hx hb dX0_darkness_23 (by rw [c0]; decide) (by rw [c0]; decide) (by rw [c0]; decide) (by decide) ?_
      refine lv_iload_n hx hb dX0_darkness_56 rfl (lv_at hl 0 rfl) ?_
      exact rt_Si hx hb hr hlk dX0_darkness_57 h
    · have h := h.2 c0
      by_cases c1 : x0 = 2
      · have h := h.1 c1
        refine lv_tableIn (tgt := 58) (off := 35) hx hb dX0_darkness_23 (by rw [c1]; decide) (by rw [c1]; decide) (by rw [c1]; decide) (by decide) ?_
        refine lv_iload_n hx hb dX0_darkness_58 rfl (lv_at hl 1 rfl) ?_
        refine lv_iconst (v := 1) hx hb dX0_darkness_59 (by decide) ?_
        refine lv_iadd hx hb dX0_darkness_60 ?_
        refine lv_iconst (v := 2) hx hb dX0_darkness_61 (by decide) ?_
        refine lv_idiv hx hb dX0_darkness_62 (by decide) ?_
        exact rt_Si hx hb hr hlk dX0_darkness_63 h
      · have h := h.2 c1
        by_cases c2 : x0 = 3
        · have h := h.1 c2
          refine lv_tableIn (tgt := 56) (off := 33) hx hb dX0_darkness_23 (by rw [c2]; decide) (by rw [c2]; decide) (by rw [c2]; decide) (by decide) ?_
          refine lv_iload_n hx hb dX0_darkness_56 rfl (lv_at hl 0 rfl) ?_
          exact rt_Si hx hb hr hlk dX0_darkness_57 h
        · have h := h.2 c2
          by_cases c3 : x0 = 4
          · have h := h.1 c3
            refine lv_tableIn (tgt := 58) (off := 35) hx hb dX0_darkness_23 (by rw [c3]; decide) (by rw [c3]; decide) (by rw [c3]; decide) (by decide) ?_
            refine lv_iload_n hx hb dX0_darkness_58 rfl (lv_at hl 1 rfl) ?_
            refine lv_iconst (v := 1) hx hb dX0_darkness_59 (by decide) ?_
            refine lv_iadd hx hb dX0_darkness_60 ?_
            refine lv_iconst (v := 2) hx hb dX0_darkness_61 (by decide) ?_
            refine lv_idiv hx hb dX0_darkness_62 (by decide) ?_
            exact rt_Si hx hb hr hlk dX0_darkness_63 h
          · have h := h.2 c3
            by_cases c4 : x0 = 5
            · have h := h.1 c4
              refine lv_tableIn (tgt := 64) (off := 41) hx hb dX0_darkness_23 (by rw [c4]; decide) (by rw [c4]; decide) (by rw [c4]; decide) (by decide) ?_
              refine lv_iload_n hx hb dX0_darkness_64 rfl (lv_at hl 0 rfl) ?_
              refine lv_iconst (v := 1) hx hb dX0_darkness_65 (by decide) ?_
              refine lv_isub hx hb dX0_darkness_66 ?_
              exact rt_Si hx hb hr hlk dX0_darkness_67 h
            · have h := h.2 c4
              have cn0 := lv_neT c0 (a := 1) (by decide)
              have cn1 := lv_neT c1 (a := 2) (by decide)
              have cn2 := lv_neT c2 (a := 3) (by decide)
              have cn3 := lv_neT c3 (a := 4) (by decide)
              have cn4 := lv_neT c4 (a := 5) (by decide)
              refine lv_tableOut (tgt := 68) hx hb dX0_darkness_23 (by omega) (by decide) ?_
              refine lv_iload_n hx hb dX0_darkness_68 rfl (lv_at hl 1 rfl) ?_
              exact rt_Si hx hb hr hlk dX0_darkness_69 h
  · have h := h.2 ct
    refine lv_iconst (v := 0) hx hb dX0_darkness_11 (by decide) ?_
    exact rt_Si hx hb hr hlk dX0_darkness_12 h
abbrev rm_X0_isHard : Room := { frames := 0, cells := 0, slots := 0, locals := 0 }
set_option maxRecDepth 100000 in
set_option maxHeartbeats 4000000 in
theorem c_X0_isHard (l : Launch) (x0 : Int32) (post : Int32 → Prop) (h : w_X0_isHard x0 post) : Met l yX0_isHard [.code yX0_isHard cX0_isHard 1 (some .boolean)] rm_X0_isHard (va_Pc [.int x0] TBok) (vp_Si post) 0 0 (fun _ => False) := by
  refine ax_S (by decide) (Nat.le_of_ble_eq_true rfl) ?_
  intro p e s m args below meth c hx hb hr hlk hml hown hT ls hl
  have hl : lv_has ls 1 [(0, .int x0)] := hl
  unfold w_X0_isHard at h
  refine lv_iload_n hx hb dX0_isHard_0 rfl (lv_at hl 0 rfl) ?_
  refine lv_iconst (v := 1) hx hb dX0_isHard_1 (by decide) ?_
  refine lv_icmp_eq (tgt := 15) hx hb dX0_isHard_2 (by decide) (fun ct => ?_) (fun ct => ?_)
  · have h := h.1 ct
    refine lv_iconst (v := 1) hx hb dX0_isHard_15 (by decide) ?_
    refine lv_goto (tgt := 20) hx hb dX0_isHard_16 (by decide) ?_
    exact rt_Sz hx hb hr hlk dX0_isHard_20 rfl h
  · have h := h.2 ct
    refine lv_iload_n hx hb dX0_isHard_5 rfl (lv_at hl 0 rfl) ?_
    refine lv_iconst (v := 3) hx hb dX0_isHard_6 (by decide) ?_
    refine lv_icmp_eq (tgt := 15) hx hb dX0_isHard_7 (by decide) (fun ct => ?_) (fun ct => ?_)
    · have h := h.1 ct
      refine lv_iconst (v := 1) hx hb dX0_isHard_15 (by decide) ?_
      refine lv_goto (tgt := 20) hx hb dX0_isHard_16 (by decide) ?_
      exact rt_Sz hx hb hr hlk dX0_isHard_20 rfl h
    · have h := h.2 ct
      refine lv_iload_n hx hb dX0_isHard_10 rfl (lv_at hl 0 rfl) ?_
      refine lv_iconst (v := 5) hx hb dX0_isHard_11 (by decide) ?_
      refine lv_icmp_ne (tgt := 19) hx hb dX0_isHard_12 (by decide) (fun ct => ?_) (fun ct => ?_)
      · have h := h.1 ct
        refine lv_iconst (v := 0) hx hb dX0_isHard_19 (by decide) ?_
        exact rt_Sz hx hb hr hlk dX0_isHard_20 rfl h
      · have h := h.2 ct
        refine lv_iconst (v := 1) hx hb dX0_isHard_15 (by decide) ?_
        refine lv_goto (tgt := 20) hx hb dX0_isHard_16 (by decide) ?_
        exact rt_Sz hx hb hr hlk dX0_isHard_20 rfl h
abbrev rm_X0_paintTaken : Room := { frames := 1, cells := 0, slots := 0, locals := 21 }
set_option maxRecDepth 100000 in
set_option maxHeartbeats 4000000 in
theorem c_X0_paintTaken (l : Launch) (x0 : Int32) (x1 : Int32) (post : Int32 → Prop) (h : w_X0_paintTaken x0 x1 post) : Met l yX0_paintTaken [.code yX0_paintTaken cX0_paintTaken 2 (some .int)] rm_X0_paintTaken (va_Pc [.int x0, .int x1] TBok) (vp_Si post) 0 0 (fun _ => False) := by
  refine ax_S (by decide) (Nat.le_of_ble_eq_true rfl) ?_
  intro p e s m args below meth c hx hb hr hlk hml hown hT ls hl
  have hl : lv_has ls 2 [(0, .int x0), (1, .int x1)] := hl
  unfold w_X0_paintTaken at h
  refine lv_iload_n hx hb dX0_paintTaken_0 rfl (lv_at hl 0 rfl) ?_
  refine cl_Si (rn_S (rest := []) hx hb hml hown hT hl.1 ck_X0_17 (c_X0_isHard l x0 _ h) ⟨rfl, rfl, (Nat.le_of_ble_eq_true rfl), (Nat.le_of_ble_eq_true rfl)⟩ ⟨Nat.zero_le _, Nat.zero_le _⟩ rfl rfl (Nat.le_of_ble_eq_true rfl) dX0_paintTaken_1) (fun r1 h => ?_)
  refine lv_if_eq (tgt := 11) hx hb dX0_paintTaken_4 (by decide) (fun ct => ?_) (fun ct => ?_)
  · have h := h.1 ct
    refine lv_iconst (v := 1) hx hb dX0_paintTaken_11 (by decide) ?_
    refine lv_iload_n hx hb dX0_paintTaken_12 rfl (lv_at hl 1 rfl) ?_
    refine km_X0_9 hx hb hml hown hT hl.1 (Nat.le_of_ble_eq_true rfl) (Nat.le_of_ble_eq_true rfl) ⟨Nat.zero_le _, Nat.zero_le _⟩ dX0_paintTaken_13 ?_
    exact rt_Si hx hb hr hlk dX0_paintTaken_16 h
  · have h := h.2 ct
    refine lv_iconst (v := 2) hx hb dX0_paintTaken_7 (by decide) ?_
    refine lv_goto (tgt := 12) hx hb dX0_paintTaken_8 (by decide) ?_
    refine lv_iload_n hx hb dX0_paintTaken_12 rfl (lv_at hl 1 rfl) ?_
    refine km_X0_9 hx hb hml hown hT hl.1 (Nat.le_of_ble_eq_true rfl) (Nat.le_of_ble_eq_true rfl) ⟨Nat.zero_le _, Nat.zero_le _⟩ dX0_paintTaken_13 ?_
    exact rt_Si hx hb hr hlk dX0_paintTaken_16 h
abbrev rm_X0_printsOfOneDip : Room := { frames := 2, cells := 0, slots := 0, locals := 44 }
set_option maxRecDepth 100000 in
set_option maxHeartbeats 4000000 in
theorem c_X0_printsOfOneDip (l : Launch) (x0 : Int32) (x1 : Int32) (x2 : Int32) (post : Int32 → Prop) (h : w_X0_printsOfOneDip x0 x1 x2 post) : Met l yX0_printsOfOneDip [.code yX0_printsOfOneDip cX0_printsOfOneDip 5 (some .int)] rm_X0_printsOfOneDip (va_Pc [.int x0, .int x1, .int x2] TBok) (vp_Si post) 0 0 (fun _ => False) := by
  refine ax_S (by decide) (Nat.le_of_ble_eq_true rfl) ?_
  intro p e s m args below meth c hx hb hr hlk hml hown hT ls hl
  have hl : lv_has ls 5 [(0, .int x0), (1, .int x1), (2, .int x2)] := hl
  unfold w_X0_printsOfOneDip at h
  have HL5 : ∀  (z0 : Int32) (z1 : Int32) (z2 : Int32) (K : Int32 → Int32 → Prop), (∀  (y3 : Int32) (y4 : Int32), K y3 y4 → ∀ ls : Array Slot, lv_has ls 5 [(0, .int z0), (1, .int z1), (2, .int z2), (3, .int y3), (4, .int y4)] → W p l e rm_X0_printsOfOneDip s m args below meth c s.heap [] 0 0 (MQ below (vp_Si post) args s 0 0 (fun _ => False)) (F0 m 39 ls [])) → ∀ (n : Nat)  (y3 : Int32) (y4 : Int32), itF (w_X0_printsOfOneDip_L5 z0 z1 z2 post K) (fun _ _ => False) n y3 y4 → ∀ ls : Array Slot, lv_has ls 5 [(0, .int z0), (1, .int z1), (2, .int z2), (3, .int y3), (4, .int y4)] → W p l e rm_X0_printsOfOneDip s m args below meth c s.heap [] 0 0 (MQ below (vp_Si post) args s 0 0 (fun _ => False)) (F0 m 5 ls []) := by
    intro z0 z1 z2 K hKK n
    induction n with
    | zero =>
      intro y3 y4 h
      exact absurd h id
    | succ n ih =>
      intro y3 y4 h ls hl
      have h : w_X0_printsOfOneDip_L5 z0 z1 z2 post K (itF (w_X0_printsOfOneDip_L5 z0 z1 z2 post K) (fun _ _ => False) n) y3 y4 := h
      generalize itF (w_X0_printsOfOneDip_L5 z0 z1 z2 post K) (fun _ _ => False) n = rec at h ih
      unfold w_X0_printsOfOneDip_L5 at h
      refine lv_iload_n hx hb dX0_printsOfOneDip_5 rfl (lv_at hl 3 rfl) ?_
      refine lv_if_le (tgt := 39) hx hb dX0_printsOfOneDip_6 (by decide) (fun ct => ?_) (fun ct => ?_)
      · have h := h.1 ct
        exact hKK _ _ h ls (lv_sub hl [0, 1, 2, 3, 4] rfl)
      · have h := h.2 ct
        refine lv_iload hx hb dX0_printsOfOneDip_9 (lv_at hl 4 rfl) ?_
        refine lv_bipush (v := 12) hx hb dX0_printsOfOneDip_11 (by decide) ?_
        refine lv_icmp_ge (tgt := 39) hx hb dX0_printsOfOneDip_13 (by decide) (fun ct => ?_) (fun ct => ?_)
        · have h := h.1 ct
          exact hKK _ _ h ls (lv_sub hl [0, 1, 2, 3, 4] rfl)
        · have h := h.2 ct
          refine lv_iload_n hx hb dX0_printsOfOneDip_16 rfl (lv_at hl 0 rfl) ?_
          refine lv_iload_n hx hb dX0_printsOfOneDip_17 rfl (lv_at hl 3 rfl) ?_
          refine cl_Si (rn_S (rest := []) hx hb hml hown hT hl.1 ck_X0_21 (c_X0_darkness l z0 y3 _ h) ⟨rfl, rfl, (Nat.le_of_ble_eq_true rfl), (Nat.le_of_ble_eq_true rfl)⟩ ⟨Nat.zero_le _, Nat.zero_le _⟩ rfl rfl (Nat.le_of_ble_eq_true rfl) dX0_printsOfOneDip_18) (fun r1 h => ?_)
          refine lv_iload_n hx hb dX0_printsOfOneDip_21 rfl (lv_at hl 2 rfl) ?_
          refine lv_icmp_lt (tgt := 39) hx hb dX0_printsOfOneDip_22 (by decide) (fun ct => ?_) (fun ct => ?_)
          · have h := h.1 ct
            exact hKK _ _ h ls (lv_sub hl [0, 1, 2, 3, 4] rfl)
          · have h := h.2 ct
            refine lv_iload_n hx hb dX0_printsOfOneDip_25 rfl (lv_at hl 3 rfl) ?_
            refine lv_iload_n hx hb dX0_printsOfOneDip_26 rfl (lv_at hl 0 rfl) ?_
            refine lv_iload_n hx hb dX0_printsOfOneDip_27 rfl (lv_at hl 3 rfl) ?_
            refine cl_Si (rn_S (rest := [.int y3]) hx hb hml hown hT hl.1 ck_X0_24 (c_X0_paintTaken l z0 y3 _ h) ⟨rfl, rfl, (Nat.le_of_ble_eq_true rfl), (Nat.le_of_ble_eq_true rfl)⟩ ⟨Nat.zero_le _, Nat.zero_le _⟩ rfl rfl (Nat.le_of_ble_eq_true rfl) dX0_printsOfOneDip_28) (fun r2 h => ?_)
            refine lv_isub hx hb dX0_printsOfOneDip_31 ?_
            refine lv_topi (fun v3 ev3 => ?_)
            have h := h v3 ev3
            refine lv_istore_n (lv' := [(3, .int v3), (0, .int z0), (1, .int z1), (2, .int z2), (4, .int y4)]) hx hb dX0_printsOfOneDip_32 rfl hl (by decide) rfl (fun ls hl => ?_)
            refine lv_iinc (v := y4 + 1) (lv' := [(4, .int (y4 + 1)), (3, .int v3), (0, .int z0), (1, .int z1), (2, .int z2)]) hx hb dX0_printsOfOneDip_33 hl (k := 4) rfl rfl (by decide) rfl (fun ls hl => ?_)
            refine lv_goto (tgt := 5) hx hb dX0_printsOfOneDip_36 (by decide) ?_
            exact ih _ _ h ls (lv_sub hl [2, 3, 4, 1, 0] rfl)
  refine lv_iload_n hx hb dX0_printsOfOneDip_0 rfl (lv_at hl 1 rfl) ?_
  refine lv_istore_n (lv' := [(3, .int x1), (0, .int x0), (1, .int x1), (2, .int x2)]) hx hb dX0_printsOfOneDip_1 rfl hl (by decide) rfl (fun ls hl => ?_)
  refine lv_iconst (v := 0) hx hb dX0_printsOfOneDip_2 (by decide) ?_
  refine lv_istore (lv' := [(4, .int 0), (3, .int x1), (0, .int x0), (1, .int x1), (2, .int x2)]) hx hb dX0_printsOfOneDip_3 hl (by decide) rfl (fun ls hl => ?_)
  obtain ⟨n6, h⟩ := h
  refine HL5 _ _ _ _ (fun v4 v5 h ls hl => ?_) n6 _ _ h  ls (lv_sub hl [2, 3, 4, 1, 0] rfl)
  refine lv_iload hx hb dX0_printsOfOneDip_39 (lv_at hl 4 rfl) ?_
  exact rt_Si hx hb hr hlk dX0_printsOfOneDip_41 h
abbrev rm_X0_slidColumn : Room := { frames := 0, cells := 0, slots := 0, locals := 0 }
set_option maxRecDepth 100000 in
set_option maxHeartbeats 4000000 in
theorem c_X0_slidColumn (l : Launch) (x0 : Int32) (x1 : Int32) (x2 : Int32) (post : Int32 → Prop) (h : w_X0_slidColumn x0 x1 x2 post) : Met l yX0_slidColumn [.code yX0_slidColumn cX0_slidColumn 4 (some .int)] rm_X0_slidColumn (va_Pc [.int x0, .int x1, .int x2] TBok) (vp_Si post) 0 0 (fun _ => False) := by
  refine ax_S (by decide) (Nat.le_of_ble_eq_true rfl) ?_
  intro p e s m args below meth c hx hb hr hlk hml hown hT ls hl
  have hl : lv_has ls 4 [(0, .int x0), (1, .int x1), (2, .int x2)] := hl
  unfold w_X0_slidColumn at h
  refine lv_iload_n hx hb dX0_slidColumn_0 rfl (lv_at hl 0 rfl) ?_
  refine lv_iconst (v := 3) hx hb dX0_slidColumn_1 (by decide) ?_
  refine lv_icmp_eq (tgt := 10) hx hb dX0_slidColumn_2 (by decide) (fun ct => ?_) (fun ct => ?_)
  · have h := h.1 ct
    refine lv_iconst (v := 1) hx hb dX0_slidColumn_10 (by decide) ?_
    refine lv_goto (tgt := 15) hx hb dX0_slidColumn_11 (by decide) ?_
    refine lv_istore_n (lv' := [(3, .int 1), (0, .int x0), (1, .int x1), (2, .int x2)]) hx hb dX0_slidColumn_15 rfl hl (by decide) rfl (fun ls hl => ?_)
    refine lv_iload_n hx hb dX0_slidColumn_16 rfl (lv_at hl 0 rfl) ?_
    refine lv_if_eq (tgt := 32) hx hb dX0_slidColumn_17 (by decide) (fun ct => absurd ct (by decide)) (fun _ => ?_)
    refine lv_iload_n hx hb dX0_slidColumn_20 rfl (lv_at hl 2 rfl) ?_
    refine lv_bipush (v := 8) hx hb dX0_slidColumn_21 (by decide) ?_
    refine lv_icmp_le (tgt := 32) hx hb dX0_slidColumn_23 (by decide) (fun ct => ?_) (fun ct => ?_)
    · have h := h.1 ct
      refine lv_iload_n hx hb dX0_slidColumn_32 rfl (lv_at hl 3 rfl) ?_
      exact rt_Si hx hb hr hlk dX0_slidColumn_33 h
    · have h := h.2 ct
      refine lv_iload_n hx hb dX0_slidColumn_26 rfl (lv_at hl 3 rfl) ?_
      refine lv_iconst (v := 1) hx hb dX0_slidColumn_27 (by decide) ?_
      refine lv_iadd hx hb dX0_slidColumn_28 ?_
      refine lv_goto (tgt := 33) hx hb dX0_slidColumn_29 (by decide) ?_
      exact rt_Si hx hb hr hlk dX0_slidColumn_33 h
  · have h := h.2 ct
    refine lv_iload_n hx hb dX0_slidColumn_5 rfl (lv_at hl 0 rfl) ?_
    refine lv_iconst (v := 5) hx hb dX0_slidColumn_6 (by decide) ?_
    refine lv_icmp_ne (tgt := 14) hx hb dX0_slidColumn_7 (by decide) (fun ct => ?_) (fun ct => ?_)
    · have h := h.1 ct
      refine lv_iconst (v := 0) hx hb dX0_slidColumn_14 (by decide) ?_
      refine lv_istore_n (lv' := [(3, .int 0), (0, .int x0), (1, .int x1), (2, .int x2)]) hx hb dX0_slidColumn_15 rfl hl (by decide) rfl (fun ls hl => ?_)
      refine lv_iload_n hx hb dX0_slidColumn_16 rfl (lv_at hl 0 rfl) ?_
      refine lv_if_eq (tgt := 32) hx hb dX0_slidColumn_17 (by decide) (fun _ => ?_) (fun ct => absurd (by decide) ct)
      refine lv_iload_n hx hb dX0_slidColumn_32 rfl (lv_at hl 3 rfl) ?_
      exact rt_Si hx hb hr hlk dX0_slidColumn_33 h
    · have h := h.2 ct
      refine lv_iconst (v := 1) hx hb dX0_slidColumn_10 (by decide) ?_
      refine lv_goto (tgt := 15) hx hb dX0_slidColumn_11 (by decide) ?_
      refine lv_istore_n (lv' := [(3, .int 1), (0, .int x0), (1, .int x1), (2, .int x2)]) hx hb dX0_slidColumn_15 rfl hl (by decide) rfl (fun ls hl => ?_)
      refine lv_iload_n hx hb dX0_slidColumn_16 rfl (lv_at hl 0 rfl) ?_
      refine lv_if_eq (tgt := 32) hx hb dX0_slidColumn_17 (by decide) (fun ct => absurd ct (by decide)) (fun _ => ?_)
      refine lv_iload_n hx hb dX0_slidColumn_20 rfl (lv_at hl 2 rfl) ?_
      refine lv_bipush (v := 8) hx hb dX0_slidColumn_21 (by decide) ?_
      refine lv_icmp_le (tgt := 32) hx hb dX0_slidColumn_23 (by decide) (fun ct => ?_) (fun ct => ?_)
      · have h := h.1 ct
        refine lv_iload_n hx hb dX0_slidColumn_32 rfl (lv_at hl 3 rfl) ?_
        exact rt_Si hx hb hr hlk dX0_slidColumn_33 h
      · have h := h.2 ct
        refine lv_iload_n hx hb dX0_slidColumn_26 rfl (lv_at hl 3 rfl) ?_
        refine lv_iconst (v := 1) hx hb dX0_slidColumn_27 (by decide) ?_
        refine lv_iadd hx hb dX0_slidColumn_28 ?_
        refine lv_goto (tgt := 33) hx hb dX0_slidColumn_29 (by decide) ?_
        exact rt_Si hx hb hr hlk dX0_slidColumn_33 h
abbrev rm_X1_placed : Room := { frames := 0, cells := 0, slots := 0, locals := 0 }
set_option maxRecDepth 100000 in
set_option maxHeartbeats 4000000 in
theorem c_X1_placed (l : Launch) (x0 : Int32) (x1 : Int32) (x2 : Int32) (post : Int64 → Prop) (h : w_X1_placed x0 x1 x2 post) : Met l yX1_placed [.code yX1_placed cX1_placed 8 (some .long)] rm_X1_placed (va_Pc [.int x0, .int x1, .int x2] TBok) (vp_Sl post) 0 0 (fun _ => False) := by
  refine ax_S (by decide) (Nat.le_of_ble_eq_true rfl) ?_
  intro p e s m args below meth c hx hb hr hlk hml hown hT ls hl
  have hl : lv_has ls 8 [(0, .int x0), (1, .int x1), (2, .int x2)] := hl
  unfold w_X1_placed at h
  have HL5 : ∀  (z0 : Int32) (z1 : Int32) (z2 : Int32) (K : Int64 → Int32 → Prop), (∀  (y3 : Int64) (y5 : Int32), K y3 y5 → ∀ ls : Array Slot, lv_has ls 8 [(0, .int z0), (1, .int z1), (2, .int z2), (3, .long y3), (5, .int y5)] → W p l e rm_X1_placed s m args below meth c s.heap [] 0 0 (MQ below (vp_Sl post) args s 0 0 (fun _ => False)) (F0 m 71 ls [])) → ∀ (n : Nat)  (y3 : Int64) (y5 : Int32), itF (w_X1_placed_L5 z0 z1 z2 post K) (fun _ _ => False) n y3 y5 → ∀ ls : Array Slot, lv_has ls 8 [(0, .int z0), (1, .int z1), (2, .int z2), (3, .long y3), (5, .int y5)] → W p l e rm_X1_placed s m args below meth c s.heap [] 0 0 (MQ below (vp_Sl post) args s 0 0 (fun _ => False)) (F0 m 5 ls []) := by
    intro z0 z1 z2 K hKK n
    induction n with
    | zero =>
      intro y3 y5 h
      exact absurd h id
    | succ n ih =>
      intro y3 y5 h ls hl
      have h : w_X1_placed_L5 z0 z1 z2 post K (itF (w_X1_placed_L5 z0 z1 z2 post K) (fun _ _ => False) n) y3 y5 := h
      generalize itF (w_X1_placed_L5 z0 z1 z2 post K) (fun _ _ => False) n = rec at h ih
      unfold w_X1_placed_L5 at h
      refine lv_iload hx hb dX1_placed_5 (lv_at hl 4 rfl) ?_
      refine lv_bipush (v := 16) hx hb dX1_placed_7 (by decide) ?_
      refine lv_icmp_ge (tgt := 71) hx hb dX1_placed_9 (by decide) (fun ct => ?_) (fun ct => ?_)
      · have h := h.1 ct
        exact hKK _ _ h ls (lv_sub hl [0, 1, 2, 3, 4] rfl)
      · have h := h.2 ct
        refine lv_iload_n hx hb dX1_placed_12 rfl (lv_at hl 1 rfl) ?_
        refine lv_iload hx hb dX1_placed_13 (lv_at hl 4 rfl) ?_
        refine lv_iconst (v := 4) hx hb dX1_placed_15 (by decide) ?_
        refine lv_irem hx hb dX1_placed_16 (by decide) ?_
        refine lv_iadd hx hb dX1_placed_17 ?_
        refine lv_topi (fun v1 ev1 => ?_)
        have h := h v1 ev1
        refine lv_istore (lv' := [(6, .int v1), (0, .int z0), (1, .int z1), (2, .int z2), (3, .long y3), (5, .int y5)]) hx hb dX1_placed_18 hl (by decide) rfl (fun ls hl => ?_)
        refine lv_iload_n hx hb dX1_placed_20 rfl (lv_at hl 3 rfl) ?_
        refine lv_iload hx hb dX1_placed_21 (lv_at hl 5 rfl) ?_
        refine lv_iconst (v := 4) hx hb dX1_placed_23 (by decide) ?_
        refine lv_idiv hx hb dX1_placed_24 (by decide) ?_
        refine lv_iadd hx hb dX1_placed_25 ?_
        refine lv_topi (fun v2 ev2 => ?_)
        have h := h v2 ev2
        refine lv_istore (lv' := [(7, .int v2), (6, .int v1), (0, .int z0), (1, .int z1), (2, .int z2), (3, .long y3), (5, .int y5)]) hx hb dX1_placed_26 hl (by decide) rfl (fun ls hl => ?_)
        refine lv_iload_n hx hb dX1_placed_28 rfl (lv_at hl 2 rfl) ?_
        refine lv_iload hx hb dX1_placed_29 (lv_at hl 6 rfl) ?_
        refine lv_iushr (v := jushr z0 y5) hx hb dX1_placed_31 rfl ?_
        refine lv_iconst (v := 1) hx hb dX1_placed_32 (by decide) ?_
        refine lv_iand hx hb dX1_placed_33 ?_
        refine lv_iconst (v := 1) hx hb dX1_placed_34 (by decide) ?_
        refine lv_icmp_ne (tgt := 65) hx hb dX1_placed_35 (by decide) (fun ct => ?_) (fun ct => ?_)
        · have h := h.1 ct
          refine lv_iinc (v := y5 + 1) (lv' := [(5, .int (y5 + 1)), (7, .int v2), (6, .int v1), (0, .int z0), (1, .int z1), (2, .int z2), (3, .long y3)]) hx hb dX1_placed_65 hl (k := 6) rfl rfl (by decide) rfl (fun ls hl => ?_)
          refine lv_goto (tgt := 5) hx hb dX1_placed_68 (by decide) ?_
          exact ih _ _ h ls (lv_sub hl [3, 4, 5, 6, 0] rfl)
        · have h := h.2 ct
          refine lv_iload hx hb dX1_placed_38 (lv_at hl 1 rfl) ?_
          refine lv_bipush (v := 8) hx hb dX1_placed_40 (by decide) ?_
          refine lv_icmp_ge (tgt := 65) hx hb dX1_placed_42 (by decide) (fun ct => ?_) (fun ct => ?_)
          · have h := h.1 ct
            refine lv_iinc (v := y5 + 1) (lv' := [(5, .int (y5 + 1)), (7, .int v2), (6, .int v1), (0, .int z0), (1, .int z1), (2, .int z2), (3, .long y3)]) hx hb dX1_placed_65 hl (k := 6) rfl rfl (by decide) rfl (fun ls hl => ?_)
            refine lv_goto (tgt := 5) hx hb dX1_placed_68 (by decide) ?_
            exact ih _ _ h ls (lv_sub hl [3, 4, 5, 6, 0] rfl)
          · have h := h.2 ct
            refine lv_iload hx hb dX1_placed_45 (lv_at hl 0 rfl) ?_
            refine lv_bipush (v := 8) hx hb dX1_placed_47 (by decide) ?_
            refine lv_icmp_ge (tgt := 65) hx hb dX1_placed_49 (by decide) (fun ct => ?_) (fun ct => ?_)
            · have h := h.1 ct
              refine lv_iinc (v := y5 + 1) (lv' := [(5, .int (y5 + 1)), (7, .int v2), (6, .int v1), (0, .int z0), (1, .int z1), (2, .int z2), (3, .long y3)]) hx hb dX1_placed_65 hl (k := 6) rfl rfl (by decide) rfl (fun ls hl => ?_)
              refine lv_goto (tgt := 5) hx hb dX1_placed_68 (by decide) ?_
              exact ih _ _ h ls (lv_sub hl [3, 4, 5, 6, 0] rfl)
            · have h := h.2 ct
              refine lv_lload_n hx hb dX1_placed_52 rfl (lv_at hl 5 rfl) ?_
              refine lv_lconst (v := 1) hx hb dX1_placed_53 (by decide) ?_
              refine lv_bipush (v := 8) hx hb dX1_placed_54 (by decide) ?_
              refine lv_iload hx hb dX1_placed_56 (lv_at hl 0 rfl) ?_
              refine lv_imul hx hb dX1_placed_58 ?_
              refine lv_iload hx hb dX1_placed_59 (lv_at hl 1 rfl) ?_
              refine lv_iadd hx hb dX1_placed_61 ?_
              refine lv_lshl (v := jlshl 1 ((8 * v2) + v1)) hx hb dX1_placed_62 rfl ?_
              refine lv_lor hx hb dX1_placed_63 ?_
              refine lv_topl (fun v3 ev3 => ?_)
              have h := h v3 ev3
              refine lv_lstore_n (lv' := [(3, .long v3), (7, .int v2), (6, .int v1), (0, .int z0), (1, .int z1), (2, .int z2), (5, .int y5)]) hx hb dX1_placed_64 rfl hl (by decide) rfl (fun ls hl => ?_)
              refine lv_iinc (v := y5 + 1) (lv' := [(5, .int (y5 + 1)), (3, .long v3), (7, .int v2), (6, .int v1), (0, .int z0), (1, .int z1), (2, .int z2)]) hx hb dX1_placed_65 hl (k := 6) rfl rfl (by decide) rfl (fun ls hl => ?_)
              refine lv_goto (tgt := 5) hx hb dX1_placed_68 (by decide) ?_
              exact ih _ _ h ls (lv_sub hl [4, 5, 6, 1, 0] rfl)
  refine lv_lconst (v := 0) hx hb dX1_placed_0 (by decide) ?_
  refine lv_lstore_n (lv' := [(3, .long 0), (0, .int x0), (1, .int x1), (2, .int x2)]) hx hb dX1_placed_1 rfl hl (by decide) rfl (fun ls hl => ?_)
  refine lv_iconst (v := 0) hx hb dX1_placed_2 (by decide) ?_
  refine lv_istore (lv' := [(5, .int 0), (3, .long 0), (0, .int x0), (1, .int x1), (2, .int x2)]) hx hb dX1_placed_3 hl (by decide) rfl (fun ls hl => ?_)
  obtain ⟨n6, h⟩ := h
  refine HL5 _ _ _ _ (fun v4 v5 h ls hl => ?_) n6 _ _ h  ls (lv_sub hl [2, 3, 4, 1, 0] rfl)
  refine lv_lload_n hx hb dX1_placed_71 rfl (lv_at hl 3 rfl) ?_
  exact rt_Sl hx hb hr hlk dX1_placed_72 h
abbrev rm_X0_fullCells : Room := { frames := 1, cells := 0, slots := 0, locals := 27 }
set_option maxRecDepth 100000 in
set_option maxHeartbeats 4000000 in
theorem c_X0_fullCells (l : Launch) (x0 : Int32) (x1 : Int32) (x2 : Int32) (x3 : Int32) (x4 : Int32) (post : Int64 → Prop) (h : w_X0_fullCells x0 x1 x2 x3 x4 post) : Met l yX0_fullCells [.code yX0_fullCells cX0_fullCells 8 (some .long)] rm_X0_fullCells (va_Pc [.int x0, .int x1, .int x2, .int x3, .int x4] TBok) (vp_Sl post) 0 0 (fun _ => False) := by
  refine ax_S (by decide) (Nat.le_of_ble_eq_true rfl) ?_
  intro p e s m args below meth c hx hb hr hlk hml hown hT ls hl
  have hl : lv_has ls 8 [(0, .int x0), (1, .int x1), (2, .int x2), (3, .int x3), (4, .int x4)] := hl
  unfold w_X0_fullCells at h
  refine lv_iload_n hx hb dX0_fullCells_0 rfl (lv_at hl 2 rfl) ?_
  refine lv_iload_n hx hb dX0_fullCells_1 rfl (lv_at hl 0 rfl) ?_
  refine lv_iload_n hx hb dX0_fullCells_2 rfl (lv_at hl 1 rfl) ?_
  refine lv_iload_n hx hb dX0_fullCells_3 rfl (lv_at hl 3 rfl) ?_
  refine cl_Si (rn_S (rest := [.int x2]) hx hb hml hown hT hl.1 ck_X0_27 (c_X0_slidColumn l x0 x1 x3 _ h) ⟨rfl, rfl, (Nat.le_of_ble_eq_true rfl), (Nat.le_of_ble_eq_true rfl)⟩ ⟨Nat.zero_le _, Nat.zero_le _⟩ rfl rfl (Nat.le_of_ble_eq_true rfl) dX0_fullCells_4) (fun r1 h => ?_)
  refine lv_iload hx hb dX0_fullCells_7 (lv_at hl 4 rfl) ?_
  refine cl_Sl (rn_SN (rest := []) hx hb hml hown hT hl.1 ck_X0_31 (c_X1_placed l x2 r1 x4 _ h) ⟨rfl, rfl, (Nat.le_of_ble_eq_true rfl), (Nat.le_of_ble_eq_true rfl)⟩ ⟨Nat.zero_le _, Nat.zero_le _⟩ rfl rfl (Nat.le_of_ble_eq_true rfl) dX0_fullCells_9) (fun r2 h => ?_)
  refine lv_lstore (lv' := [(5, .long r2), (0, .int x0), (1, .int x1), (2, .int x2), (3, .int x3), (4, .int x4)]) hx hb dX0_fullCells_12 hl (by decide) rfl (fun ls hl => ?_)
  refine lv_iload_n hx hb dX0_fullCells_14 rfl (lv_at hl 1 rfl) ?_
  refine lv_iconst (v := 4) hx hb dX0_fullCells_15 (by decide) ?_
  refine lv_icmp_ne (tgt := 28) hx hb dX0_fullCells_16 (by decide) (fun ct => ?_) (fun ct => ?_)
  · have h := h.1 ct
    refine lv_iconst (v := 0) hx hb dX0_fullCells_28 (by decide) ?_
    refine lv_istore (lv' := [(7, .int 0), (5, .long r2), (0, .int x0), (1, .int x1), (2, .int x2), (3, .int x3), (4, .int x4)]) hx hb dX0_fullCells_29 hl (by decide) rfl (fun ls hl => ?_)
    refine lv_iload hx hb dX0_fullCells_31 (lv_at hl 0 rfl) ?_
    refine lv_if_eq (tgt := 45) hx hb dX0_fullCells_33 (by decide) (fun _ => ?_) (fun ct => absurd (by decide) ct)
    refine lv_lload hx hb dX0_fullCells_45 (lv_at hl 1 rfl) ?_
    exact rt_Sl hx hb hr hlk dX0_fullCells_47 h
  · have h := h.2 ct
    refine lv_iload_n hx hb dX0_fullCells_19 rfl (lv_at hl 2 rfl) ?_
    refine lv_iconst (v := 4) hx hb dX0_fullCells_20 (by decide) ?_
    refine lv_icmp_ge (tgt := 28) hx hb dX0_fullCells_21 (by decide) (fun ct => ?_) (fun ct => ?_)
    · have h := h.1 ct
      refine lv_iconst (v := 0) hx hb dX0_fullCells_28 (by decide) ?_
      refine lv_istore (lv' := [(7, .int 0), (5, .long r2), (0, .int x0), (1, .int x1), (2, .int x2), (3, .int x3), (4, .int x4)]) hx hb dX0_fullCells_29 hl (by decide) rfl (fun ls hl => ?_)
      refine lv_iload hx hb dX0_fullCells_31 (lv_at hl 0 rfl) ?_
      refine lv_if_eq (tgt := 45) hx hb dX0_fullCells_33 (by decide) (fun _ => ?_) (fun ct => absurd (by decide) ct)
      refine lv_lload hx hb dX0_fullCells_45 (lv_at hl 1 rfl) ?_
      exact rt_Sl hx hb hr hlk dX0_fullCells_47 h
    · have h := h.2 ct
      refine lv_iconst (v := 1) hx hb dX0_fullCells_24 (by decide) ?_
      refine lv_goto (tgt := 29) hx hb dX0_fullCells_25 (by decide) ?_
      refine lv_istore (lv' := [(7, .int 1), (5, .long r2), (0, .int x0), (1, .int x1), (2, .int x2), (3, .int x3), (4, .int x4)]) hx hb dX0_fullCells_29 hl (by decide) rfl (fun ls hl => ?_)
      refine lv_iload hx hb dX0_fullCells_31 (lv_at hl 0 rfl) ?_
      refine lv_if_eq (tgt := 45) hx hb dX0_fullCells_33 (by decide) (fun ct => absurd ct (by decide)) (fun _ => ?_)
      refine lv_lload hx hb dX0_fullCells_36 (lv_at hl 1 rfl) ?_
      refine ki_X0_37 hx hb hT hown dX0_fullCells_38 ?_
      refine lv_land hx hb dX0_fullCells_41 ?_
      refine lv_goto (tgt := 47) hx hb dX0_fullCells_42 (by decide) ?_
      exact rt_Sl hx hb hr hlk dX0_fullCells_47 h
abbrev rm_X0_halfCells : Room := { frames := 1, cells := 0, slots := 0, locals := 27 }
set_option maxRecDepth 100000 in
set_option maxHeartbeats 4000000 in
theorem c_X0_halfCells (l : Launch) (x0 : Int32) (x1 : Int32) (x2 : Int32) (x3 : Int32) (x4 : Int32) (post : Int64 → Prop) (h : w_X0_halfCells x0 x1 x2 x3 x4 post) : Met l yX0_halfCells [.code yX0_halfCells cX0_halfCells 5 (some .long)] rm_X0_halfCells (va_Pc [.int x0, .int x1, .int x2, .int x3, .int x4] TBok) (vp_Sl post) 0 0 (fun _ => False) := by
  refine ax_S (by decide) (Nat.le_of_ble_eq_true rfl) ?_
  intro p e s m args below meth c hx hb hr hlk hml hown hT ls hl
  have hl : lv_has ls 5 [(0, .int x0), (1, .int x1), (2, .int x2), (3, .int x3), (4, .int x4)] := hl
  unfold w_X0_halfCells at h
  refine lv_iload_n hx hb dX0_halfCells_0 rfl (lv_at hl 0 rfl) ?_
  refine lv_iconst (v := 5) hx hb dX0_halfCells_1 (by decide) ?_
  refine lv_icmp_ne (tgt := 22) hx hb dX0_halfCells_2 (by decide) (fun ct => ?_) (fun ct => ?_)
  · have h := h.1 ct
    refine lv_lconst (v := 0) hx hb dX0_halfCells_22 (by decide) ?_
    exact rt_Sl hx hb hr hlk dX0_halfCells_23 h
  · have h := h.2 ct
    refine lv_iload_n hx hb dX0_halfCells_5 rfl (lv_at hl 2 rfl) ?_
    refine lv_iload_n hx hb dX0_halfCells_6 rfl (lv_at hl 0 rfl) ?_
    refine lv_iload_n hx hb dX0_halfCells_7 rfl (lv_at hl 1 rfl) ?_
    refine lv_iload_n hx hb dX0_halfCells_8 rfl (lv_at hl 3 rfl) ?_
    refine cl_Si (rn_S (rest := [.int x2]) hx hb hml hown hT hl.1 ck_X0_27 (c_X0_slidColumn l x0 x1 x3 _ h) ⟨rfl, rfl, (Nat.le_of_ble_eq_true rfl), (Nat.le_of_ble_eq_true rfl)⟩ ⟨Nat.zero_le _, Nat.zero_le _⟩ rfl rfl (Nat.le_of_ble_eq_true rfl) dX0_halfCells_9) (fun r1 h => ?_)
    refine lv_iconst (v := 1) hx hb dX0_halfCells_12 (by decide) ?_
    refine lv_iadd hx hb dX0_halfCells_13 ?_
    refine lv_iload hx hb dX0_halfCells_14 (lv_at hl 4 rfl) ?_
    refine cl_Sl (rn_SN (rest := []) hx hb hml hown hT hl.1 ck_X0_31 (c_X1_placed l x2 (r1 + 1) x4 _ h) ⟨rfl, rfl, (Nat.le_of_ble_eq_true rfl), (Nat.le_of_ble_eq_true rfl)⟩ ⟨Nat.zero_le _, Nat.zero_le _⟩ rfl rfl (Nat.le_of_ble_eq_true rfl) dX0_halfCells_16) (fun r2 h => ?_)
    refine lv_goto (tgt := 23) hx hb dX0_halfCells_19 (by decide) ?_
    exact rt_Sl hx hb hr hlk dX0_halfCells_23 h
abbrev rm_X0_inks : Room := { frames := 2, cells := 0, slots := 0, locals := 54 }
set_option maxRecDepth 100000 in
set_option maxHeartbeats 4000000 in
theorem c_X0_inks (l : Launch) (x0 : Int32) (x1 : Int32) (x2 : Int32) (x3 : Int32) (x4 : Int32) (x5 : Int32) (post : Int32 → Prop) (h : w_X0_inks x0 x1 x2 x3 x4 x5 post) : Met l yX0_inks [.code yX0_inks cX0_inks 9 (some .boolean)] rm_X0_inks (va_Pc [.int x0, .int x1, .int x2, .int x3, .int x4, .int x5] TBok) (vp_Si post) 0 0 (fun _ => False) := by
  refine ax_S (by decide) (Nat.le_of_ble_eq_true rfl) ?_
  intro p e s m args below meth c hx hb hr hlk hml hown hT ls hl
  have hl : lv_has ls 9 [(0, .int x0), (1, .int x1), (2, .int x2), (3, .int x3), (4, .int x4), (5, .int x5)] := hl
  unfold w_X0_inks at h
  refine lv_iload_n hx hb dX0_inks_0 rfl (lv_at hl 0 rfl) ?_
  refine lv_iload_n hx hb dX0_inks_1 rfl (lv_at hl 1 rfl) ?_
  refine cl_Si (rn_S (rest := []) hx hb hml hown hT hl.1 ck_X0_21 (c_X0_darkness l x0 x1 _ h) ⟨rfl, rfl, (Nat.le_of_ble_eq_true rfl), (Nat.le_of_ble_eq_true rfl)⟩ ⟨Nat.zero_le _, Nat.zero_le _⟩ rfl rfl (Nat.le_of_ble_eq_true rfl) dX0_inks_2) (fun r1 h => ?_)
  refine lv_istore (lv' := [(6, .int r1), (0, .int x0), (1, .int x1), (2, .int x2), (3, .int x3), (4, .int x4), (5, .int x5)]) hx hb dX0_inks_5 hl (by decide) rfl (fun ls hl => ?_)
  refine lv_iload hx hb dX0_inks_7 (lv_at hl 0 rfl) ?_
  refine lv_if_le (tgt := 24) hx hb dX0_inks_9 (by decide) (fun ct => ?_) (fun ct => ?_)
  · have h := h.1 ct
    refine lv_lconst (v := 0) hx hb dX0_inks_24 (by decide) ?_
    refine lv_lstore (lv' := [(7, .long 0), (6, .int r1), (0, .int x0), (1, .int x1), (2, .int x2), (3, .int x3), (4, .int x4), (5, .int x5)]) hx hb dX0_inks_25 hl (by decide) rfl (fun ls hl => ?_)
    refine lv_iload hx hb dX0_inks_27 (lv_at hl 1 rfl) ?_
    refine lv_iconst (v := 2) hx hb dX0_inks_29 (by decide) ?_
    refine lv_idiv hx hb dX0_inks_30 (by decide) ?_
    refine lv_if_le (tgt := 48) hx hb dX0_inks_31 (by decide) (fun ct => ?_) (fun ct => ?_)
    · have h := h.1 ct
      refine lv_lload hx hb dX0_inks_48 (lv_at hl 0 rfl) ?_
      refine lv_iload hx hb dX0_inks_50 (lv_at hl 7 rfl) ?_
      refine lv_lushr (v := jlushr 0 x5) hx hb dX0_inks_52 rfl ?_
      refine lv_lconst (v := 1) hx hb dX0_inks_53 (by decide) ?_
      refine lv_land hx hb dX0_inks_54 ?_
      refine lv_lconst (v := 1) hx hb dX0_inks_55 (by decide) ?_
      refine W.lcmp hx hb dX0_inks_56 ?_
      refine lv_if_ne (tgt := 64) hx hb dX0_inks_57 (by decide) (fun ct => ?_) (fun ct => ?_)
      · have h := h.1 ct
        refine lv_iconst (v := 0) hx hb dX0_inks_64 (by decide) ?_
        exact rt_Sz hx hb hr hlk dX0_inks_65 rfl h
      · have h := h.2 ct
        refine lv_iconst (v := 1) hx hb dX0_inks_60 (by decide) ?_
        refine lv_goto (tgt := 65) hx hb dX0_inks_61 (by decide) ?_
        exact rt_Sz hx hb hr hlk dX0_inks_65 rfl h
    · have h := h.2 ct
      refine lv_lload hx hb dX0_inks_34 (lv_at hl 0 rfl) ?_
      refine lv_iload_n hx hb dX0_inks_36 rfl (lv_at hl 2 rfl) ?_
      refine lv_iload_n hx hb dX0_inks_37 rfl (lv_at hl 3 rfl) ?_
      refine lv_iload_n hx hb dX0_inks_38 rfl (lv_at hl 4 rfl) ?_
      refine lv_iload_n hx hb dX0_inks_39 rfl (lv_at hl 5 rfl) ?_
      refine lv_iload hx hb dX0_inks_40 (lv_at hl 6 rfl) ?_
      refine cl_Sl (rn_S (rest := [.long 0]) hx hb hml hown hT hl.1 ck_X0_43 (c_X0_halfCells l x0 x1 x2 x3 x4 _ h) ⟨rfl, rfl, (Nat.le_of_ble_eq_true rfl), (Nat.le_of_ble_eq_true rfl)⟩ ⟨Nat.zero_le _, Nat.zero_le _⟩ rfl rfl (Nat.le_of_ble_eq_true rfl) dX0_inks_42) (fun r2 h => ?_)
      refine lv_lor hx hb dX0_inks_45 ?_
      refine lv_topl (fun v3 ev3 => ?_)
      have h := h v3 ev3
      refine lv_lstore (lv' := [(7, .long v3), (6, .int r1), (0, .int x0), (1, .int x1), (2, .int x2), (3, .int x3), (4, .int x4), (5, .int x5)]) hx hb dX0_inks_46 hl (by decide) rfl (fun ls hl => ?_)
      refine lv_lload hx hb dX0_inks_48 (lv_at hl 0 rfl) ?_
      refine lv_iload hx hb dX0_inks_50 (lv_at hl 7 rfl) ?_
      refine lv_lushr (v := jlushr v3 x5) hx hb dX0_inks_52 rfl ?_
      refine lv_lconst (v := 1) hx hb dX0_inks_53 (by decide) ?_
      refine lv_land hx hb dX0_inks_54 ?_
      refine lv_lconst (v := 1) hx hb dX0_inks_55 (by decide) ?_
      refine W.lcmp hx hb dX0_inks_56 ?_
      refine lv_if_ne (tgt := 64) hx hb dX0_inks_57 (by decide) (fun ct => ?_) (fun ct => ?_)
      · have h := h.1 ct
        refine lv_iconst (v := 0) hx hb dX0_inks_64 (by decide) ?_
        exact rt_Sz hx hb hr hlk dX0_inks_65 rfl h
      · have h := h.2 ct
        refine lv_iconst (v := 1) hx hb dX0_inks_60 (by decide) ?_
        refine lv_goto (tgt := 65) hx hb dX0_inks_61 (by decide) ?_
        exact rt_Sz hx hb hr hlk dX0_inks_65 rfl h
  · have h := h.2 ct
    refine lv_iload_n hx hb dX0_inks_12 rfl (lv_at hl 1 rfl) ?_
    refine lv_iload_n hx hb dX0_inks_13 rfl (lv_at hl 2 rfl) ?_
    refine lv_iload_n hx hb dX0_inks_14 rfl (lv_at hl 3 rfl) ?_
    refine lv_iload_n hx hb dX0_inks_15 rfl (lv_at hl 4 rfl) ?_
    refine lv_iload hx hb dX0_inks_16 (lv_at hl 5 rfl) ?_
    refine cl_Sl (rn_S (rest := []) hx hb hml hown hT hl.1 ck_X0_39 (c_X0_fullCells l x0 x1 x2 x3 x4 _ h) ⟨rfl, rfl, (Nat.le_of_ble_eq_true rfl), (Nat.le_of_ble_eq_true rfl)⟩ ⟨Nat.zero_le _, Nat.zero_le _⟩ rfl rfl (Nat.le_of_ble_eq_true rfl) dX0_inks_18) (fun r4 h => ?_)
    refine lv_goto (tgt := 25) hx hb dX0_inks_21 (by decide) ?_
    refine lv_lstore (lv' := [(7, .long r4), (6, .int r1), (0, .int x0), (1, .int x1), (2, .int x2), (3, .int x3), (4, .int x4), (5, .int x5)]) hx hb dX0_inks_25 hl (by decide) rfl (fun ls hl => ?_)
    refine lv_iload hx hb dX0_inks_27 (lv_at hl 1 rfl) ?_
    refine lv_iconst (v := 2) hx hb dX0_inks_29 (by decide) ?_
    refine lv_idiv hx hb dX0_inks_30 (by decide) ?_
    refine lv_if_le (tgt := 48) hx hb dX0_inks_31 (by decide) (fun ct => ?_) (fun ct => ?_)
    · have h := h.1 ct
      refine lv_lload hx hb dX0_inks_48 (lv_at hl 0 rfl) ?_
      refine lv_iload hx hb dX0_inks_50 (lv_at hl 7 rfl) ?_
      refine lv_lushr (v := jlushr r4 x5) hx hb dX0_inks_52 rfl ?_
      refine lv_lconst (v := 1) hx hb dX0_inks_53 (by decide) ?_
      refine lv_land hx hb dX0_inks_54 ?_
      refine lv_lconst (v := 1) hx hb dX0_inks_55 (by decide) ?_
      refine W.lcmp hx hb dX0_inks_56 ?_
      refine lv_if_ne (tgt := 64) hx hb dX0_inks_57 (by decide) (fun ct => ?_) (fun ct => ?_)
      · have h := h.1 ct
        refine lv_iconst (v := 0) hx hb dX0_inks_64 (by decide) ?_
        exact rt_Sz hx hb hr hlk dX0_inks_65 rfl h
      · have h := h.2 ct
        refine lv_iconst (v := 1) hx hb dX0_inks_60 (by decide) ?_
        refine lv_goto (tgt := 65) hx hb dX0_inks_61 (by decide) ?_
        exact rt_Sz hx hb hr hlk dX0_inks_65 rfl h
    · have h := h.2 ct
      refine lv_lload hx hb dX0_inks_34 (lv_at hl 0 rfl) ?_
      refine lv_iload_n hx hb dX0_inks_36 rfl (lv_at hl 2 rfl) ?_
      refine lv_iload_n hx hb dX0_inks_37 rfl (lv_at hl 3 rfl) ?_
      refine lv_iload_n hx hb dX0_inks_38 rfl (lv_at hl 4 rfl) ?_
      refine lv_iload_n hx hb dX0_inks_39 rfl (lv_at hl 5 rfl) ?_
      refine lv_iload hx hb dX0_inks_40 (lv_at hl 6 rfl) ?_
      refine cl_Sl (rn_S (rest := [.long r4]) hx hb hml hown hT hl.1 ck_X0_43 (c_X0_halfCells l x0 x1 x2 x3 x4 _ h) ⟨rfl, rfl, (Nat.le_of_ble_eq_true rfl), (Nat.le_of_ble_eq_true rfl)⟩ ⟨Nat.zero_le _, Nat.zero_le _⟩ rfl rfl (Nat.le_of_ble_eq_true rfl) dX0_inks_42) (fun r5 h => ?_)
      refine lv_lor hx hb dX0_inks_45 ?_
      refine lv_topl (fun v6 ev6 => ?_)
      have h := h v6 ev6
      refine lv_lstore (lv' := [(7, .long v6), (6, .int r1), (0, .int x0), (1, .int x1), (2, .int x2), (3, .int x3), (4, .int x4), (5, .int x5)]) hx hb dX0_inks_46 hl (by decide) rfl (fun ls hl => ?_)
      refine lv_lload hx hb dX0_inks_48 (lv_at hl 0 rfl) ?_
      refine lv_iload hx hb dX0_inks_50 (lv_at hl 7 rfl) ?_
      refine lv_lushr (v := jlushr v6 x5) hx hb dX0_inks_52 rfl ?_
      refine lv_lconst (v := 1) hx hb dX0_inks_53 (by decide) ?_
      refine lv_land hx hb dX0_inks_54 ?_
      refine lv_lconst (v := 1) hx hb dX0_inks_55 (by decide) ?_
      refine W.lcmp hx hb dX0_inks_56 ?_
      refine lv_if_ne (tgt := 64) hx hb dX0_inks_57 (by decide) (fun ct => ?_) (fun ct => ?_)
      · have h := h.1 ct
        refine lv_iconst (v := 0) hx hb dX0_inks_64 (by decide) ?_
        exact rt_Sz hx hb hr hlk dX0_inks_65 rfl h
      · have h := h.2 ct
        refine lv_iconst (v := 1) hx hb dX0_inks_60 (by decide) ?_
        refine lv_goto (tgt := 65) hx hb dX0_inks_61 (by decide) ?_
        exact rt_Sz hx hb hr hlk dX0_inks_65 rfl h
abbrev rm_X1_bitOf : Room := { frames := 0, cells := 0, slots := 0, locals := 0 }
set_option maxRecDepth 100000 in
set_option maxHeartbeats 4000000 in
theorem c_X1_bitOf (l : Launch) (x0 : Int32) (x1 : Int32) (post : Int32 → Prop) (h : w_X1_bitOf x0 x1 post) : Met l yX1_bitOf [.code yX1_bitOf cX1_bitOf 2 (some .int)] rm_X1_bitOf (va_Pc [.int x0, .int x1] TBok) (vp_Si post) 0 0 (fun _ => False) := by
  refine ax_S (by decide) (Nat.le_of_ble_eq_true rfl) ?_
  intro p e s m args below meth c hx hb hr hlk hml hown hT ls hl
  have hl : lv_has ls 2 [(0, .int x0), (1, .int x1)] := hl
  unfold w_X1_bitOf at h
  refine lv_iconst (v := 1) hx hb dX1_bitOf_0 (by decide) ?_
  refine lv_iconst (v := 4) hx hb dX1_bitOf_1 (by decide) ?_
  refine lv_iload_n hx hb dX1_bitOf_2 rfl (lv_at hl 1 rfl) ?_
  refine lv_imul hx hb dX1_bitOf_3 ?_
  refine lv_iload_n hx hb dX1_bitOf_4 rfl (lv_at hl 0 rfl) ?_
  refine lv_iadd hx hb dX1_bitOf_5 ?_
  refine lv_ishl hx hb dX1_bitOf_6 ?_
  exact rt_Si hx hb hr hlk dX1_bitOf_7 h
abbrev rm_X1_mirrored : Room := { frames := 1, cells := 0, slots := 0, locals := 21 }
set_option maxRecDepth 100000 in
set_option maxHeartbeats 4000000 in
theorem c_X1_mirrored (l : Launch) (x0 : Int32) (post : Int32 → Prop) (h : w_X1_mirrored x0 post) : Met l yX1_mirrored [.code yX1_mirrored cX1_mirrored 3 (some .int)] rm_X1_mirrored (va_Pc [.int x0] TBok) (vp_Si post) 0 0 (fun _ => False) := by
  refine ax_S (by decide) (Nat.le_of_ble_eq_true rfl) ?_
  intro p e s m args below meth c hx hb hr hlk hml hown hT ls hl
  have hl : lv_has ls 3 [(0, .int x0)] := hl
  unfold w_X1_mirrored at h
  have HL4 : ∀  (z0 : Int32) (K : Int32 → Int32 → Prop), (∀  (y1 : Int32) (y2 : Int32), K y1 y2 → ∀ ls : Array Slot, lv_has ls 3 [(0, .int z0), (1, .int y1), (2, .int y2)] → W p l e rm_X1_mirrored s m args below meth c s.heap [] 0 0 (MQ below (vp_Si post) args s 0 0 (fun _ => False)) (F0 m 39 ls [])) → ∀ (n : Nat)  (y1 : Int32) (y2 : Int32), itF (w_X1_mirrored_L4 z0 post K) (fun _ _ => False) n y1 y2 → ∀ ls : Array Slot, lv_has ls 3 [(0, .int z0), (1, .int y1), (2, .int y2)] → W p l e rm_X1_mirrored s m args below meth c s.heap [] 0 0 (MQ below (vp_Si post) args s 0 0 (fun _ => False)) (F0 m 4 ls []) := by
    intro z0 K hKK n
    induction n with
    | zero =>
      intro y1 y2 h
      exact absurd h id
    | succ n ih =>
      intro y1 y2 h ls hl
      have h : w_X1_mirrored_L4 z0 post K (itF (w_X1_mirrored_L4 z0 post K) (fun _ _ => False) n) y1 y2 := h
      generalize itF (w_X1_mirrored_L4 z0 post K) (fun _ _ => False) n = rec at h ih
      unfold w_X1_mirrored_L4 at h
      refine lv_iload_n hx hb dX1_mirrored_4 rfl (lv_at hl 2 rfl) ?_
      refine lv_bipush (v := 16) hx hb dX1_mirrored_5 (by decide) ?_
      refine lv_icmp_ge (tgt := 39) hx hb dX1_mirrored_7 (by decide) (fun ct => ?_) (fun ct => ?_)
      · have h := h.1 ct
        exact hKK _ _ h ls (lv_sub hl [0, 1, 2] rfl)
      · have h := h.2 ct
        refine lv_iload_n hx hb dX1_mirrored_10 rfl (lv_at hl 0 rfl) ?_
        refine lv_iload_n hx hb dX1_mirrored_11 rfl (lv_at hl 2 rfl) ?_
        refine lv_iushr (v := jushr z0 y2) hx hb dX1_mirrored_12 rfl ?_
        refine lv_iconst (v := 1) hx hb dX1_mirrored_13 (by decide) ?_
        refine lv_iand hx hb dX1_mirrored_14 ?_
        refine lv_iconst (v := 1) hx hb dX1_mirrored_15 (by decide) ?_
        refine lv_icmp_ne (tgt := 33) hx hb dX1_mirrored_16 (by decide) (fun ct => ?_) (fun ct => ?_)
        · have h := h.1 ct
          refine lv_iinc (v := y2 + 1) (lv' := [(2, .int (y2 + 1)), (0, .int z0), (1, .int y1)]) hx hb dX1_mirrored_33 hl (k := 2) rfl rfl (by decide) rfl (fun ls hl => ?_)
          refine lv_goto (tgt := 4) hx hb dX1_mirrored_36 (by decide) ?_
          exact ih _ _ h ls (lv_sub hl [1, 2, 0] rfl)
        · have h := h.2 ct
          refine lv_iload_n hx hb dX1_mirrored_19 rfl (lv_at hl 1 rfl) ?_
          refine lv_iconst (v := 3) hx hb dX1_mirrored_20 (by decide) ?_
          refine lv_iload_n hx hb dX1_mirrored_21 rfl (lv_at hl 2 rfl) ?_
          refine lv_iconst (v := 4) hx hb dX1_mirrored_22 (by decide) ?_
          refine lv_irem hx hb dX1_mirrored_23 (by decide) ?_
          refine lv_isub hx hb dX1_mirrored_24 ?_
          refine lv_iload_n hx hb dX1_mirrored_25 rfl (lv_at hl 2 rfl) ?_
          refine lv_iconst (v := 4) hx hb dX1_mirrored_26 (by decide) ?_
          refine lv_idiv hx hb dX1_mirrored_27 (by decide) ?_
          refine cl_Si (rn_S (rest := [.int y1]) hx hb hml hown hT hl.1 ck_X1_18 (c_X1_bitOf l (3 - (jrem y2 4)) (y2 / 4) _ h) ⟨rfl, rfl, (Nat.le_of_ble_eq_true rfl), (Nat.le_of_ble_eq_true rfl)⟩ ⟨Nat.zero_le _, Nat.zero_le _⟩ rfl rfl (Nat.le_of_ble_eq_true rfl) dX1_mirrored_28) (fun r1 h => ?_)
          refine lv_ior hx hb dX1_mirrored_31 ?_
          refine lv_topi (fun v2 ev2 => ?_)
          have h := h v2 ev2
          refine lv_istore_n (lv' := [(1, .int v2), (0, .int z0), (2, .int y2)]) hx hb dX1_mirrored_32 rfl hl (by decide) rfl (fun ls hl => ?_)
          refine lv_iinc (v := y2 + 1) (lv' := [(2, .int (y2 + 1)), (1, .int v2), (0, .int z0)]) hx hb dX1_mirrored_33 hl (k := 2) rfl rfl (by decide) rfl (fun ls hl => ?_)
          refine lv_goto (tgt := 4) hx hb dX1_mirrored_36 (by decide) ?_
          exact ih _ _ h ls (lv_sub hl [2, 1, 0] rfl)
  refine lv_iconst (v := 0) hx hb dX1_mirrored_0 (by decide) ?_
  refine lv_istore_n (lv' := [(1, .int 0), (0, .int x0)]) hx hb dX1_mirrored_1 rfl hl (by decide) rfl (fun ls hl => ?_)
  refine lv_iconst (v := 0) hx hb dX1_mirrored_2 (by decide) ?_
  refine lv_istore_n (lv' := [(2, .int 0), (1, .int 0), (0, .int x0)]) hx hb dX1_mirrored_3 rfl hl (by decide) rfl (fun ls hl => ?_)
  obtain ⟨n5, h⟩ := h
  refine HL4 _ _ (fun v3 v4 h ls hl => ?_) n5 _ _ h  ls (lv_sub hl [2, 1, 0] rfl)
  refine lv_iload_n hx hb dX1_mirrored_39 rfl (lv_at hl 1 rfl) ?_
  exact rt_Si hx hb hr hlk dX1_mirrored_40 h
abbrev rm_X1_turnedOnce : Room := { frames := 1, cells := 0, slots := 0, locals := 21 }
set_option maxRecDepth 100000 in
set_option maxHeartbeats 4000000 in
theorem c_X1_turnedOnce (l : Launch) (x0 : Int32) (post : Int32 → Prop) (h : w_X1_turnedOnce x0 post) : Met l yX1_turnedOnce [.code yX1_turnedOnce cX1_turnedOnce 3 (some .int)] rm_X1_turnedOnce (va_Pc [.int x0] TBok) (vp_Si post) 0 0 (fun _ => False) := by
  refine ax_S (by decide) (Nat.le_of_ble_eq_true rfl) ?_
  intro p e s m args below meth c hx hb hr hlk hml hown hT ls hl
  have hl : lv_has ls 3 [(0, .int x0)] := hl
  unfold w_X1_turnedOnce at h
  have HL4 : ∀  (z0 : Int32) (K : Int32 → Int32 → Prop), (∀  (y1 : Int32) (y2 : Int32), K y1 y2 → ∀ ls : Array Slot, lv_has ls 3 [(0, .int z0), (1, .int y1), (2, .int y2)] → W p l e rm_X1_turnedOnce s m args below meth c s.heap [] 0 0 (MQ below (vp_Si post) args s 0 0 (fun _ => False)) (F0 m 39 ls [])) → ∀ (n : Nat)  (y1 : Int32) (y2 : Int32), itF (w_X1_turnedOnce_L4 z0 post K) (fun _ _ => False) n y1 y2 → ∀ ls : Array Slot, lv_has ls 3 [(0, .int z0), (1, .int y1), (2, .int y2)] → W p l e rm_X1_turnedOnce s m args below meth c s.heap [] 0 0 (MQ below (vp_Si post) args s 0 0 (fun _ => False)) (F0 m 4 ls []) := by
    intro z0 K hKK n
    induction n with
    | zero =>
      intro y1 y2 h
      exact absurd h id
    | succ n ih =>
      intro y1 y2 h ls hl
      have h : w_X1_turnedOnce_L4 z0 post K (itF (w_X1_turnedOnce_L4 z0 post K) (fun _ _ => False) n) y1 y2 := h
      generalize itF (w_X1_turnedOnce_L4 z0 post K) (fun _ _ => False) n = rec at h ih
      unfold w_X1_turnedOnce_L4 at h
      refine lv_iload_n hx hb dX1_turnedOnce_4 rfl (lv_at hl 2 rfl) ?_
      refine lv_bipush (v := 16) hx hb dX1_turnedOnce_5 (by decide) ?_
      refine lv_icmp_ge (tgt := 39) hx hb dX1_turnedOnce_7 (by decide) (fun ct => ?_) (fun ct => ?_)
      · have h := h.1 ct
        exact hKK _ _ h ls (lv_sub hl [0, 1, 2] rfl)
      · have h := h.2 ct
        refine lv_iload_n hx hb dX1_turnedOnce_10 rfl (lv_at hl 0 rfl) ?_
        refine lv_iload_n hx hb dX1_turnedOnce_11 rfl (lv_at hl 2 rfl) ?_
        refine lv_iushr (v := jushr z0 y2) hx hb dX1_turnedOnce_12 rfl ?_
        refine lv_iconst (v := 1) hx hb dX1_turnedOnce_13 (by decide) ?_
        refine lv_iand hx hb dX1_turnedOnce_14 ?_
        refine lv_iconst (v := 1) hx hb dX1_turnedOnce_15 (by decide) ?_
        refine lv_icmp_ne (tgt := 33) hx hb dX1_turnedOnce_16 (by decide) (fun ct => ?_) (fun ct => ?_)
        · have h := h.1 ct
          refine lv_iinc (v := y2 + 1) (lv' := [(2, .int (y2 + 1)), (0, .int z0), (1, .int y1)]) hx hb dX1_turnedOnce_33 hl (k := 2) rfl rfl (by decide) rfl (fun ls hl => ?_)
          refine lv_goto (tgt := 4) hx hb dX1_turnedOnce_36 (by decide) ?_
          exact ih _ _ h ls (lv_sub hl [1, 2, 0] rfl)
        · have h := h.2 ct
          refine lv_iload_n hx hb dX1_turnedOnce_19 rfl (lv_at hl 1 rfl) ?_
          refine lv_iconst (v := 3) hx hb dX1_turnedOnce_20 (by decide) ?_
          refine lv_iload_n hx hb dX1_turnedOnce_21 rfl (lv_at hl 2 rfl) ?_
          refine lv_iconst (v := 4) hx hb dX1_turnedOnce_22 (by decide) ?_
          refine lv_idiv hx hb dX1_turnedOnce_23 (by decide) ?_
          refine lv_isub hx hb dX1_turnedOnce_24 ?_
          refine lv_iload_n hx hb dX1_turnedOnce_25 rfl (lv_at hl 2 rfl) ?_
          refine lv_iconst (v := 4) hx hb dX1_turnedOnce_26 (by decide) ?_
          refine lv_irem hx hb dX1_turnedOnce_27 (by decide) ?_
          refine cl_Si (rn_S (rest := [.int y1]) hx hb hml hown hT hl.1 ck_X1_18 (c_X1_bitOf l (3 - (y2 / 4)) (jrem y2 4) _ h) ⟨rfl, rfl, (Nat.le_of_ble_eq_true rfl), (Nat.le_of_ble_eq_true rfl)⟩ ⟨Nat.zero_le _, Nat.zero_le _⟩ rfl rfl (Nat.le_of_ble_eq_true rfl) dX1_turnedOnce_28) (fun r1 h => ?_)
          refine lv_ior hx hb dX1_turnedOnce_31 ?_
          refine lv_topi (fun v2 ev2 => ?_)
          have h := h v2 ev2
          refine lv_istore_n (lv' := [(1, .int v2), (0, .int z0), (2, .int y2)]) hx hb dX1_turnedOnce_32 rfl hl (by decide) rfl (fun ls hl => ?_)
          refine lv_iinc (v := y2 + 1) (lv' := [(2, .int (y2 + 1)), (1, .int v2), (0, .int z0)]) hx hb dX1_turnedOnce_33 hl (k := 2) rfl rfl (by decide) rfl (fun ls hl => ?_)
          refine lv_goto (tgt := 4) hx hb dX1_turnedOnce_36 (by decide) ?_
          exact ih _ _ h ls (lv_sub hl [2, 1, 0] rfl)
  refine lv_iconst (v := 0) hx hb dX1_turnedOnce_0 (by decide) ?_
  refine lv_istore_n (lv' := [(1, .int 0), (0, .int x0)]) hx hb dX1_turnedOnce_1 rfl hl (by decide) rfl (fun ls hl => ?_)
  refine lv_iconst (v := 0) hx hb dX1_turnedOnce_2 (by decide) ?_
  refine lv_istore_n (lv' := [(2, .int 0), (1, .int 0), (0, .int x0)]) hx hb dX1_turnedOnce_3 rfl hl (by decide) rfl (fun ls hl => ?_)
  obtain ⟨n5, h⟩ := h
  refine HL4 _ _ (fun v3 v4 h ls hl => ?_) n5 _ _ h  ls (lv_sub hl [2, 1, 0] rfl)
  refine lv_iload_n hx hb dX1_turnedOnce_39 rfl (lv_at hl 1 rfl) ?_
  exact rt_Si hx hb hr hlk dX1_turnedOnce_40 h
abbrev rm_X1_printed : Room := { frames := 2, cells := 0, slots := 0, locals := 43 }
set_option maxRecDepth 100000 in
set_option maxHeartbeats 4000000 in
theorem c_X1_printed (l : Launch) (x0 : Int32) (x1 : Int32) (post : Int32 → Prop) (h : w_X1_printed x0 x1 post) : Met l yX1_printed [.code yX1_printed cX1_printed 4 (some .int)] rm_X1_printed (va_Pc [.int x0, .int x1] TBok) (vp_Si post) 0 0 (fun _ => False) := by
  refine ax_S (by decide) (Nat.le_of_ble_eq_true rfl) ?_
  intro p e s m args below meth c hx hb hr hlk hml hown hT ls hl
  have hl : lv_has ls 4 [(0, .int x0), (1, .int x1)] := hl
  unfold w_X1_printed at h
  have HL7 : ∀  (z0 : Int32) (z1 : Int32) (K : Int32 → Int32 → Prop), (∀  (y2 : Int32) (y3 : Int32), K y2 y3 → ∀ ls : Array Slot, lv_has ls 4 [(0, .int z0), (1, .int z1), (2, .int y2), (3, .int y3)] → W p l e rm_X1_printed s m args below meth c s.heap [] 0 0 (MQ below (vp_Si post) args s 0 0 (fun _ => False)) (F0 m 28 ls [])) → ∀ (n : Nat)  (y2 : Int32) (y3 : Int32), itF (w_X1_printed_L7 z0 z1 post K) (fun _ _ => False) n y2 y3 → ∀ ls : Array Slot, lv_has ls 4 [(0, .int z0), (1, .int z1), (2, .int y2), (3, .int y3)] → W p l e rm_X1_printed s m args below meth c s.heap [] 0 0 (MQ below (vp_Si post) args s 0 0 (fun _ => False)) (F0 m 7 ls []) := by
    intro z0 z1 K hKK n
    induction n with
    | zero =>
      intro y2 y3 h
      exact absurd h id
    | succ n ih =>
      intro y2 y3 h ls hl
      have h : w_X1_printed_L7 z0 z1 post K (itF (w_X1_printed_L7 z0 z1 post K) (fun _ _ => False) n) y2 y3 := h
      generalize itF (w_X1_printed_L7 z0 z1 post K) (fun _ _ => False) n = rec at h ih
      unfold w_X1_printed_L7 at h
      refine lv_iload_n hx hb dX1_printed_7 rfl (lv_at hl 3 rfl) ?_
      refine lv_iload_n hx hb dX1_printed_8 rfl (lv_at hl 1 rfl) ?_
      refine lv_icmp_ge (tgt := 28) hx hb dX1_printed_9 (by decide) (fun ct => ?_) (fun ct => ?_)
      · have h := h.1 ct
        exact hKK _ _ h ls (lv_sub hl [0, 1, 2, 3] rfl)
      · have h := h.2 ct
        refine lv_iload_n hx hb dX1_printed_12 rfl (lv_at hl 3 rfl) ?_
        refine lv_iconst (v := 3) hx hb dX1_printed_13 (by decide) ?_
        refine lv_icmp_gt (tgt := 28) hx hb dX1_printed_14 (by decide) (fun ct => ?_) (fun ct => ?_)
        · have h := h.1 ct
          exact hKK _ _ h ls (lv_sub hl [0, 1, 2, 3] rfl)
        · have h := h.2 ct
          refine lv_iload_n hx hb dX1_printed_17 rfl (lv_at hl 2 rfl) ?_
          refine cl_Si (rn_S (rest := []) hx hb hml hown hT hl.1 ck_X1_15 (c_X1_turnedOnce l y2 _ h) ⟨rfl, rfl, (Nat.le_of_ble_eq_true rfl), (Nat.le_of_ble_eq_true rfl)⟩ ⟨Nat.zero_le _, Nat.zero_le _⟩ rfl rfl (Nat.le_of_ble_eq_true rfl) dX1_printed_18) (fun r2 h => ?_)
          refine lv_istore_n (lv' := [(2, .int r2), (0, .int z0), (1, .int z1), (3, .int y3)]) hx hb dX1_printed_21 rfl hl (by decide) rfl (fun ls hl => ?_)
          refine lv_iinc (v := y3 + 1) (lv' := [(3, .int (y3 + 1)), (2, .int r2), (0, .int z0), (1, .int z1)]) hx hb dX1_printed_22 hl (k := 3) rfl rfl (by decide) rfl (fun ls hl => ?_)
          refine lv_goto (tgt := 7) hx hb dX1_printed_25 (by decide) ?_
          exact ih _ _ h ls (lv_sub hl [2, 3, 1, 0] rfl)
  refine lv_iload_n hx hb dX1_printed_0 rfl (lv_at hl 0 rfl) ?_
  refine cl_Si (rn_S (rest := []) hx hb hml hown hT hl.1 ck_X1_9 (c_X1_mirrored l x0 _ h) ⟨rfl, rfl, (Nat.le_of_ble_eq_true rfl), (Nat.le_of_ble_eq_true rfl)⟩ ⟨Nat.zero_le _, Nat.zero_le _⟩ rfl rfl (Nat.le_of_ble_eq_true rfl) dX1_printed_1) (fun r1 h => ?_)
  refine lv_istore_n (lv' := [(2, .int r1), (0, .int x0), (1, .int x1)]) hx hb dX1_printed_4 rfl hl (by decide) rfl (fun ls hl => ?_)
  refine lv_iconst (v := 0) hx hb dX1_printed_5 (by decide) ?_
  refine lv_istore_n (lv' := [(3, .int 0), (2, .int r1), (0, .int x0), (1, .int x1)]) hx hb dX1_printed_6 rfl hl (by decide) rfl (fun ls hl => ?_)
  obtain ⟨n5, h⟩ := h
  refine HL7 _ _ _ (fun v3 v4 h ls hl => ?_) n5 _ _ h  ls (lv_sub hl [2, 3, 1, 0] rfl)
  refine lv_iload_n hx hb dX1_printed_28 rfl (lv_at hl 2 rfl) ?_
  exact rt_Si hx hb hr hlk dX1_printed_29 h
abbrev rm_X4_within : Room := { frames := 0, cells := 0, slots := 0, locals := 0 }
set_option maxRecDepth 100000 in
set_option maxHeartbeats 4000000 in
theorem c_X4_within (l : Launch) (x0 : Int32) (x1 : Int32) (x2 : Int32) (post : Int32 → Prop) (h : w_X4_within x0 x1 x2 post) : Met l yX4_within [.code yX4_within cX4_within 3 (some .boolean)] rm_X4_within (va_Pc [.int x0, .int x1, .int x2] TBok) (vp_Si post) 0 0 (fun _ => False) := by
  refine ax_S (by decide) (Nat.le_of_ble_eq_true rfl) ?_
  intro p e s m args below meth c hx hb hr hlk hml hown hT ls hl
  have hl : lv_has ls 3 [(0, .int x0), (1, .int x1), (2, .int x2)] := hl
  unfold w_X4_within at h
  refine lv_iload_n hx hb dX4_within_0 rfl (lv_at hl 0 rfl) ?_
  refine lv_iload_n hx hb dX4_within_1 rfl (lv_at hl 1 rfl) ?_
  refine lv_icmp_lt (tgt := 14) hx hb dX4_within_2 (by decide) (fun ct => ?_) (fun ct => ?_)
  · have h := h.1 ct
    refine lv_iconst (v := 0) hx hb dX4_within_14 (by decide) ?_
    exact rt_Sz hx hb hr hlk dX4_within_15 rfl h
  · have h := h.2 ct
    refine lv_iload_n hx hb dX4_within_5 rfl (lv_at hl 0 rfl) ?_
    refine lv_iload_n hx hb dX4_within_6 rfl (lv_at hl 2 rfl) ?_
    refine lv_icmp_gt (tgt := 14) hx hb dX4_within_7 (by decide) (fun ct => ?_) (fun ct => ?_)
    · have h := h.1 ct
      refine lv_iconst (v := 0) hx hb dX4_within_14 (by decide) ?_
      exact rt_Sz hx hb hr hlk dX4_within_15 rfl h
    · have h := h.2 ct
      refine lv_iconst (v := 1) hx hb dX4_within_10 (by decide) ?_
      refine lv_goto (tgt := 15) hx hb dX4_within_11 (by decide) ?_
      exact rt_Sz hx hb hr hlk dX4_within_15 rfl h
abbrev rm_X1_isUp : Room := { frames := 1, cells := 0, slots := 0, locals := 22 }
set_option maxRecDepth 100000 in
set_option maxHeartbeats 4000000 in
theorem c_X1_isUp (l : Launch) (x0 : Int32) (x1 : Int32) (x2 : Int32) (post : Int32 → Prop) (h : w_X1_isUp x0 x1 x2 post) : Met l yX1_isUp [.code yX1_isUp cX1_isUp 3 (some .boolean)] rm_X1_isUp (va_Pc [.int x0, .int x1, .int x2] TBok) (vp_Si post) 0 0 (fun _ => False) := by
  refine ax_S (by decide) (Nat.le_of_ble_eq_true rfl) ?_
  intro p e s m args below meth c hx hb hr hlk hml hown hT ls hl
  have hl : lv_has ls 3 [(0, .int x0), (1, .int x1), (2, .int x2)] := hl
  unfold w_X1_isUp at h
  refine lv_iload_n hx hb dX1_isUp_0 rfl (lv_at hl 1 rfl) ?_
  refine lv_iconst (v := 0) hx hb dX1_isUp_1 (by decide) ?_
  refine lv_iconst (v := 3) hx hb dX1_isUp_2 (by decide) ?_
  refine cl_Si (rn_SN (rest := []) hx hb hml hown hT hl.1 ck_X1_26 (c_X4_within l x1 0 3 _ h) ⟨rfl, rfl, (Nat.le_of_ble_eq_true rfl), (Nat.le_of_ble_eq_true rfl)⟩ ⟨Nat.zero_le _, Nat.zero_le _⟩ rfl rfl (Nat.le_of_ble_eq_true rfl) dX1_isUp_3) (fun r1 h => ?_)
  refine lv_if_eq (tgt := 32) hx hb dX1_isUp_6 (by decide) (fun ct => ?_) (fun ct => ?_)
  · have h := h.1 ct
    refine lv_iconst (v := 0) hx hb dX1_isUp_32 (by decide) ?_
    exact rt_Sz hx hb hr hlk dX1_isUp_33 rfl h
  · have h := h.2 ct
    refine lv_iload_n hx hb dX1_isUp_9 rfl (lv_at hl 2 rfl) ?_
    refine lv_iconst (v := 0) hx hb dX1_isUp_10 (by decide) ?_
    refine lv_iconst (v := 3) hx hb dX1_isUp_11 (by decide) ?_
    refine cl_Si (rn_SN (rest := []) hx hb hml hown hT hl.1 ck_X1_26 (c_X4_within l x2 0 3 _ h) ⟨rfl, rfl, (Nat.le_of_ble_eq_true rfl), (Nat.le_of_ble_eq_true rfl)⟩ ⟨Nat.zero_le _, Nat.zero_le _⟩ rfl rfl (Nat.le_of_ble_eq_true rfl) dX1_isUp_12) (fun r2 h => ?_)
    refine lv_if_eq (tgt := 32) hx hb dX1_isUp_15 (by decide) (fun ct => ?_) (fun ct => ?_)
    · have h := h.1 ct
      refine lv_iconst (v := 0) hx hb dX1_isUp_32 (by decide) ?_
      exact rt_Sz hx hb hr hlk dX1_isUp_33 rfl h
    · have h := h.2 ct
      refine lv_iload_n hx hb dX1_isUp_18 rfl (lv_at hl 0 rfl) ?_
      refine lv_iload_n hx hb dX1_isUp_19 rfl (lv_at hl 1 rfl) ?_
      refine lv_iload_n hx hb dX1_isUp_20 rfl (lv_at hl 2 rfl) ?_
      refine cl_Si (rn_S (rest := [.int x0]) hx hb hml hown hT hl.1 ck_X1_18 (c_X1_bitOf l x1 x2 _ h) ⟨rfl, rfl, (Nat.le_of_ble_eq_true rfl), (Nat.le_of_ble_eq_true rfl)⟩ ⟨Nat.zero_le _, Nat.zero_le _⟩ rfl rfl (Nat.le_of_ble_eq_true rfl) dX1_isUp_21) (fun r3 h => ?_)
      refine lv_iand hx hb dX1_isUp_24 ?_
      refine lv_if_eq (tgt := 32) hx hb dX1_isUp_25 (by decide) (fun ct => ?_) (fun ct => ?_)
      · have h := h.1 ct
        refine lv_iconst (v := 0) hx hb dX1_isUp_32 (by decide) ?_
        exact rt_Sz hx hb hr hlk dX1_isUp_33 rfl h
      · have h := h.2 ct
        refine lv_iconst (v := 1) hx hb dX1_isUp_28 (by decide) ?_
        refine lv_goto (tgt := 33) hx hb dX1_isUp_29 (by decide) ?_
        exact rt_Sz hx hb hr hlk dX1_isUp_33 rfl h
abbrev rm_X1_shrunk : Room := { frames := 2, cells := 0, slots := 0, locals := 44 }
set_option maxRecDepth 100000 in
set_option maxHeartbeats 4000000 in
theorem c_X1_shrunk (l : Launch) (x0 : Int32) (post : Int32 → Prop) (h : w_X1_shrunk x0 post) : Met l yX1_shrunk [.code yX1_shrunk cX1_shrunk 5 (some .int)] rm_X1_shrunk (va_Pc [.int x0] TBok) (vp_Si post) 0 0 (fun _ => False) := by
  refine ax_S (by decide) (Nat.le_of_ble_eq_true rfl) ?_
  intro p e s m args below meth c hx hb hr hlk hml hown hT ls hl
  have hl : lv_has ls 5 [(0, .int x0)] := hl
  unfold w_X1_shrunk at h
  have HL11 : ∀  (z0 : Int32) (z2 : Int32) (K : Int32 → Int32 → Prop), (∀  (y1 : Int32) (y3 : Int32), K y1 y3 → ∀ ls : Array Slot, lv_has ls 5 [(0, .int z0), (1, .int y1), (2, .int z2), (3, .int y3)] → W p l e rm_X1_shrunk s m args below meth c s.heap [] 0 0 (MQ below (vp_Si post) args s 0 0 (fun _ => False)) (F0 m 95 ls [])) → ∀ (n : Nat)  (y1 : Int32) (y3 : Int32), itF (w_X1_shrunk_L11 z0 z2 post K) (fun _ _ => False) n y1 y3 → ∀ ls : Array Slot, lv_has ls 5 [(0, .int z0), (1, .int y1), (2, .int z2), (3, .int y3)] → W p l e rm_X1_shrunk s m args below meth c s.heap [] 0 0 (MQ below (vp_Si post) args s 0 0 (fun _ => False)) (F0 m 11 ls []) := by
    intro z0 z2 K hKK n
    induction n with
    | zero =>
      intro y1 y3 h
      exact absurd h id
    | succ n ih =>
      intro y1 y3 h ls hl
      have h : w_X1_shrunk_L11 z0 z2 post K (itF (w_X1_shrunk_L11 z0 z2 post K) (fun _ _ => False) n) y1 y3 := h
      generalize itF (w_X1_shrunk_L11 z0 z2 post K) (fun _ _ => False) n = rec at h ih
      unfold w_X1_shrunk_L11 at h
      refine lv_iload_n hx hb dX1_shrunk_11 rfl (lv_at hl 3 rfl) ?_
      refine lv_iconst (v := 4) hx hb dX1_shrunk_12 (by decide) ?_
      refine lv_icmp_ge (tgt := 95) hx hb dX1_shrunk_13 (by decide) (fun ct => ?_) (fun ct => ?_)
      · have h := h.1 ct
        exact hKK _ _ h ls (lv_sub hl [0, 1, 2, 3] rfl)
      · have h := h.2 ct
        refine lv_iload_n hx hb dX1_shrunk_16 rfl (lv_at hl 0 rfl) ?_
        refine lv_iload_n hx hb dX1_shrunk_17 rfl (lv_at hl 3 rfl) ?_
        refine lv_iconst (v := 1) hx hb dX1_shrunk_18 (by decide) ?_
        refine lv_isub hx hb dX1_shrunk_19 ?_
        refine lv_iload_n hx hb dX1_shrunk_20 rfl (lv_at hl 2 rfl) ?_
        refine cl_Si (rn_S (rest := []) hx hb hml hown hT hl.1 ck_X1_22 (c_X1_isUp l z0 (y3 - 1) z2 _ h) ⟨rfl, rfl, (Nat.le_of_ble_eq_true rfl), (Nat.le_of_ble_eq_true rfl)⟩ ⟨Nat.zero_le _, Nat.zero_le _⟩ rfl rfl (Nat.le_of_ble_eq_true rfl) dX1_shrunk_21) (fun r1 h => ?_)
        refine lv_if_eq (tgt := 64) hx hb dX1_shrunk_24 (by decide) (fun ct => ?_) (fun ct => ?_)
        · have h := h.1 ct
          refine lv_iconst (v := 0) hx hb dX1_shrunk_64 (by decide) ?_
          refine lv_istore (lv' := [(4, .int 0), (0, .int z0), (1, .int y1), (2, .int z2), (3, .int y3)]) hx hb dX1_shrunk_65 hl (by decide) rfl (fun ls hl => ?_)
          refine lv_iload_n hx hb dX1_shrunk_67 rfl (lv_at hl 1 rfl) ?_
          refine lv_iload_n hx hb dX1_shrunk_68 rfl (lv_at hl 4 rfl) ?_
          refine lv_iload_n hx hb dX1_shrunk_69 rfl (lv_at hl 3 rfl) ?_
          refine cl_Si (rn_S (rest := []) hx hb hml hown hT hl.1 ck_X1_22 (c_X1_isUp l z0 y3 z2 _ h) ⟨rfl, rfl, (Nat.le_of_ble_eq_true rfl), (Nat.le_of_ble_eq_true rfl)⟩ ⟨Nat.zero_le _, Nat.zero_le _⟩ rfl rfl (Nat.le_of_ble_eq_true rfl) dX1_shrunk_70) (fun r2 h => ?_)
          refine lv_if_eq (tgt := 89) hx hb dX1_shrunk_73 (by decide) (fun ct => ?_) (fun ct => ?_)
          · have h := h.1 ct
            refine lv_iinc (v := y3 + 1) (lv' := [(3, .int (y3 + 1)), (4, .int 0), (0, .int z0), (1, .int y1), (2, .int z2)]) hx hb dX1_shrunk_89 hl (k := 4) rfl rfl (by decide) rfl (fun ls hl => ?_)
            refine lv_goto (tgt := 11) hx hb dX1_shrunk_92 (by decide) ?_
            exact ih _ _ h ls (lv_sub hl [2, 3, 4, 0] rfl)
          · have h := h.2 ct
            refine lv_iload hx hb dX1_shrunk_76 (lv_at hl 0 rfl) ?_
            refine lv_if_eq (tgt := 89) hx hb dX1_shrunk_78 (by decide) (fun _ => ?_) (fun ct => absurd (by decide) ct)
            refine lv_iinc (v := y3 + 1) (lv' := [(3, .int (y3 + 1)), (4, .int 0), (0, .int z0), (1, .int y1), (2, .int z2)]) hx hb dX1_shrunk_89 hl (k := 4) rfl rfl (by decide) rfl (fun ls hl => ?_)
            refine lv_goto (tgt := 11) hx hb dX1_shrunk_92 (by decide) ?_
            exact ih _ _ h ls (lv_sub hl [2, 3, 4, 0] rfl)
        · have h := h.2 ct
          refine lv_iload_n hx hb dX1_shrunk_27 rfl (lv_at hl 0 rfl) ?_
          refine lv_iload_n hx hb dX1_shrunk_28 rfl (lv_at hl 3 rfl) ?_
          refine lv_iconst (v := 1) hx hb dX1_shrunk_29 (by decide) ?_
          refine lv_iadd hx hb dX1_shrunk_30 ?_
          refine lv_iload_n hx hb dX1_shrunk_31 rfl (lv_at hl 2 rfl) ?_
          refine cl_Si (rn_S (rest := []) hx hb hml hown hT hl.1 ck_X1_22 (c_X1_isUp l z0 (y3 + 1) z2 _ h) ⟨rfl, rfl, (Nat.le_of_ble_eq_true rfl), (Nat.le_of_ble_eq_true rfl)⟩ ⟨Nat.zero_le _, Nat.zero_le _⟩ rfl rfl (Nat.le_of_ble_eq_true rfl) dX1_shrunk_32) (fun r3 h => ?_)
          refine lv_if_eq (tgt := 64) hx hb dX1_shrunk_35 (by decide) (fun ct => ?_) (fun ct => ?_)
          · have h := h.1 ct
            refine lv_iconst (v := 0) hx hb dX1_shrunk_64 (by decide) ?_
            refine lv_istore (lv' := [(4, .int 0), (0, .int z0), (1, .int y1), (2, .int z2), (3, .int y3)]) hx hb dX1_shrunk_65 hl (by decide) rfl (fun ls hl => ?_)
            refine lv_iload_n hx hb dX1_shrunk_67 rfl (lv_at hl 1 rfl) ?_
            refine lv_iload_n hx hb dX1_shrunk_68 rfl (lv_at hl 4 rfl) ?_
            refine lv_iload_n hx hb dX1_shrunk_69 rfl (lv_at hl 3 rfl) ?_
            refine cl_Si (rn_S (rest := []) hx hb hml hown hT hl.1 ck_X1_22 (c_X1_isUp l z0 y3 z2 _ h) ⟨rfl, rfl, (Nat.le_of_ble_eq_true rfl), (Nat.le_of_ble_eq_true rfl)⟩ ⟨Nat.zero_le _, Nat.zero_le _⟩ rfl rfl (Nat.le_of_ble_eq_true rfl) dX1_shrunk_70) (fun r4 h => ?_)
            refine lv_if_eq (tgt := 89) hx hb dX1_shrunk_73 (by decide) (fun ct => ?_) (fun ct => ?_)
            · have h := h.1 ct
              refine lv_iinc (v := y3 + 1) (lv' := [(3, .int (y3 + 1)), (4, .int 0), (0, .int z0), (1, .int y1), (2, .int z2)]) hx hb dX1_shrunk_89 hl (k := 4) rfl rfl (by decide) rfl (fun ls hl => ?_)
              refine lv_goto (tgt := 11) hx hb dX1_shrunk_92 (by decide) ?_
              exact ih _ _ h ls (lv_sub hl [2, 3, 4, 0] rfl)
            · have h := h.2 ct
              refine lv_iload hx hb dX1_shrunk_76 (lv_at hl 0 rfl) ?_
              refine lv_if_eq (tgt := 89) hx hb dX1_shrunk_78 (by decide) (fun _ => ?_) (fun ct => absurd (by decide) ct)
              refine lv_iinc (v := y3 + 1) (lv' := [(3, .int (y3 + 1)), (4, .int 0), (0, .int z0), (1, .int y1), (2, .int z2)]) hx hb dX1_shrunk_89 hl (k := 4) rfl rfl (by decide) rfl (fun ls hl => ?_)
              refine lv_goto (tgt := 11) hx hb dX1_shrunk_92 (by decide) ?_
              exact ih _ _ h ls (lv_sub hl [2, 3, 4, 0] rfl)
          · have h := h.2 ct
            refine lv_iload_n hx hb dX1_shrunk_38 rfl (lv_at hl 0 rfl) ?_
            refine lv_iload_n hx hb dX1_shrunk_39 rfl (lv_at hl 3 rfl) ?_
            refine lv_iload_n hx hb dX1_shrunk_40 rfl (lv_at hl 2 rfl) ?_
            refine lv_iconst (v := 1) hx hb dX1_shrunk_41 (by decide) ?_
            refine lv_isub hx hb dX1_shrunk_42 ?_
            refine cl_Si (rn_S (rest := []) hx hb hml hown hT hl.1 ck_X1_22 (c_X1_isUp l z0 y3 (z2 - 1) _ h) ⟨rfl, rfl, (Nat.le_of_ble_eq_true rfl), (Nat.le_of_ble_eq_true rfl)⟩ ⟨Nat.zero_le _, Nat.zero_le _⟩ rfl rfl (Nat.le_of_ble_eq_true rfl) dX1_shrunk_43) (fun r5 h => ?_)
            refine lv_if_eq (tgt := 64) hx hb dX1_shrunk_46 (by decide) (fun ct => ?_) (fun ct => ?_)
            · have h := h.1 ct
              refine lv_iconst (v := 0) hx hb dX1_shrunk_64 (by decide) ?_
              refine lv_istore (lv' := [(4, .int 0), (0, .int z0), (1, .int y1), (2, .int z2), (3, .int y3)]) hx hb dX1_shrunk_65 hl (by decide) rfl (fun ls hl => ?_)
              refine lv_iload_n hx hb dX1_shrunk_67 rfl (lv_at hl 1 rfl) ?_
              refine lv_iload_n hx hb dX1_shrunk_68 rfl (lv_at hl 4 rfl) ?_
              refine lv_iload_n hx hb dX1_shrunk_69 rfl (lv_at hl 3 rfl) ?_
              refine cl_Si (rn_S (rest := []) hx hb hml hown hT hl.1 ck_X1_22 (c_X1_isUp l z0 y3 z2 _ h) ⟨rfl, rfl, (Nat.le_of_ble_eq_true rfl), (Nat.le_of_ble_eq_true rfl)⟩ ⟨Nat.zero_le _, Nat.zero_le _⟩ rfl rfl (Nat.le_of_ble_eq_true rfl) dX1_shrunk_70) (fun r6 h => ?_)
              refine lv_if_eq (tgt := 89) hx hb dX1_shrunk_73 (by decide) (fun ct => ?_) (fun ct => ?_)
              · have h := h.1 ct
                refine lv_iinc (v := y3 + 1) (lv' := [(3, .int (y3 + 1)), (4, .int 0), (0, .int z0), (1, .int y1), (2, .int z2)]) hx hb dX1_shrunk_89 hl (k := 4) rfl rfl (by decide) rfl (fun ls hl => ?_)
                refine lv_goto (tgt := 11) hx hb dX1_shrunk_92 (by decide) ?_
                exact ih _ _ h ls (lv_sub hl [2, 3, 4, 0] rfl)
              · have h := h.2 ct
                refine lv_iload hx hb dX1_shrunk_76 (lv_at hl 0 rfl) ?_
                refine lv_if_eq (tgt := 89) hx hb dX1_shrunk_78 (by decide) (fun _ => ?_) (fun ct => absurd (by decide) ct)
                refine lv_iinc (v := y3 + 1) (lv' := [(3, .int (y3 + 1)), (4, .int 0), (0, .int z0), (1, .int y1), (2, .int z2)]) hx hb dX1_shrunk_89 hl (k := 4) rfl rfl (by decide) rfl (fun ls hl => ?_)
                refine lv_goto (tgt := 11) hx hb dX1_shrunk_92 (by decide) ?_
                exact ih _ _ h ls (lv_sub hl [2, 3, 4, 0] rfl)
            · have h := h.2 ct
              refine lv_iload_n hx hb dX1_shrunk_49 rfl (lv_at hl 0 rfl) ?_
              refine lv_iload_n hx hb dX1_shrunk_50 rfl (lv_at hl 3 rfl) ?_
              refine lv_iload_n hx hb dX1_shrunk_51 rfl (lv_at hl 2 rfl) ?_
              refine lv_iconst (v := 1) hx hb dX1_shrunk_52 (by decide) ?_
              refine lv_iadd hx hb dX1_shrunk_53 ?_
              refine cl_Si (rn_S (rest := []) hx hb hml hown hT hl.1 ck_X1_22 (c_X1_isUp l z0 y3 (z2 + 1) _ h) ⟨rfl, rfl, (Nat.le_of_ble_eq_true rfl), (Nat.le_of_ble_eq_true rfl)⟩ ⟨Nat.zero_le _, Nat.zero_le _⟩ rfl rfl (Nat.le_of_ble_eq_true rfl) dX1_shrunk_54) (fun r7 h => ?_)
              refine lv_if_eq (tgt := 64) hx hb dX1_shrunk_57 (by decide) (fun ct => ?_) (fun ct => ?_)
              · have h := h.1 ct
                refine lv_iconst (v := 0) hx hb dX1_shrunk_64 (by decide) ?_
                refine lv_istore (lv' := [(4, .int 0), (0, .int z0), (1, .int y1), (2, .int z2), (3, .int y3)]) hx hb dX1_shrunk_65 hl (by decide) rfl (fun ls hl => ?_)
                refine lv_iload_n hx hb dX1_shrunk_67 rfl (lv_at hl 1 rfl) ?_
                refine lv_iload_n hx hb dX1_shrunk_68 rfl (lv_at hl 4 rfl) ?_
                refine lv_iload_n hx hb dX1_shrunk_69 rfl (lv_at hl 3 rfl) ?_
                refine cl_Si (rn_S (rest := []) hx hb hml hown hT hl.1 ck_X1_22 (c_X1_isUp l z0 y3 z2 _ h) ⟨rfl, rfl, (Nat.le_of_ble_eq_true rfl), (Nat.le_of_ble_eq_true rfl)⟩ ⟨Nat.zero_le _, Nat.zero_le _⟩ rfl rfl (Nat.le_of_ble_eq_true rfl) dX1_shrunk_70) (fun r8 h => ?_)
                refine lv_if_eq (tgt := 89) hx hb dX1_shrunk_73 (by decide) (fun ct => ?_) (fun ct => ?_)
                · have h := h.1 ct
                  refine lv_iinc (v := y3 + 1) (lv' := [(3, .int (y3 + 1)), (4, .int 0), (0, .int z0), (1, .int y1), (2, .int z2)]) hx hb dX1_shrunk_89 hl (k := 4) rfl rfl (by decide) rfl (fun ls hl => ?_)
                  refine lv_goto (tgt := 11) hx hb dX1_shrunk_92 (by decide) ?_
                  exact ih _ _ h ls (lv_sub hl [2, 3, 4, 0] rfl)
                · have h := h.2 ct
                  refine lv_iload hx hb dX1_shrunk_76 (lv_at hl 0 rfl) ?_
                  refine lv_if_eq (tgt := 89) hx hb dX1_shrunk_78 (by decide) (fun _ => ?_) (fun ct => absurd (by decide) ct)
                  refine lv_iinc (v := y3 + 1) (lv' := [(3, .int (y3 + 1)), (4, .int 0), (0, .int z0), (1, .int y1), (2, .int z2)]) hx hb dX1_shrunk_89 hl (k := 4) rfl rfl (by decide) rfl (fun ls hl => ?_)
                  refine lv_goto (tgt := 11) hx hb dX1_shrunk_92 (by decide) ?_
                  exact ih _ _ h ls (lv_sub hl [2, 3, 4, 0] rfl)
              · have h := h.2 ct
                refine lv_iconst (v := 1) hx hb dX1_shrunk_60 (by decide) ?_
                refine lv_goto (tgt := 65) hx hb dX1_shrunk_61 (by decide) ?_
                refine lv_istore (lv' := [(4, .int 1), (0, .int z0), (1, .int y1), (2, .int z2), (3, .int y3)]) hx hb dX1_shrunk_65 hl (by decide) rfl (fun ls hl => ?_)
                refine lv_iload_n hx hb dX1_shrunk_67 rfl (lv_at hl 1 rfl) ?_
                refine lv_iload_n hx hb dX1_shrunk_68 rfl (lv_at hl 4 rfl) ?_
                refine lv_iload_n hx hb dX1_shrunk_69 rfl (lv_at hl 3 rfl) ?_
                refine cl_Si (rn_S (rest := []) hx hb hml hown hT hl.1 ck_X1_22 (c_X1_isUp l z0 y3 z2 _ h) ⟨rfl, rfl, (Nat.le_of_ble_eq_true rfl), (Nat.le_of_ble_eq_true rfl)⟩ ⟨Nat.zero_le _, Nat.zero_le _⟩ rfl rfl (Nat.le_of_ble_eq_true rfl) dX1_shrunk_70) (fun r9 h => ?_)
                refine lv_if_eq (tgt := 89) hx hb dX1_shrunk_73 (by decide) (fun ct => ?_) (fun ct => ?_)
                · have h := h.1 ct
                  refine lv_iinc (v := y3 + 1) (lv' := [(3, .int (y3 + 1)), (4, .int 1), (0, .int z0), (1, .int y1), (2, .int z2)]) hx hb dX1_shrunk_89 hl (k := 4) rfl rfl (by decide) rfl (fun ls hl => ?_)
                  refine lv_goto (tgt := 11) hx hb dX1_shrunk_92 (by decide) ?_
                  exact ih _ _ h ls (lv_sub hl [2, 3, 4, 0] rfl)
                · have h := h.2 ct
                  refine lv_iload hx hb dX1_shrunk_76 (lv_at hl 0 rfl) ?_
                  refine lv_if_eq (tgt := 89) hx hb dX1_shrunk_78 (by decide) (fun ct => absurd ct (by decide)) (fun _ => ?_)
                  refine lv_iload_n hx hb dX1_shrunk_81 rfl (lv_at hl 2 rfl) ?_
                  refine lv_iload_n hx hb dX1_shrunk_82 rfl (lv_at hl 4 rfl) ?_
                  refine lv_iload_n hx hb dX1_shrunk_83 rfl (lv_at hl 3 rfl) ?_
                  refine cl_Si (rn_S (rest := [.int y1]) hx hb hml hown hT hl.1 ck_X1_18 (c_X1_bitOf l y3 z2 _ h) ⟨rfl, rfl, (Nat.le_of_ble_eq_true rfl), (Nat.le_of_ble_eq_true rfl)⟩ ⟨Nat.zero_le _, Nat.zero_le _⟩ rfl rfl (Nat.le_of_ble_eq_true rfl) dX1_shrunk_84) (fun r10 h => ?_)
                  refine lv_ior hx hb dX1_shrunk_87 ?_
                  refine lv_topi (fun v11 ev11 => ?_)
                  have h := h v11 ev11
                  refine lv_istore_n (lv' := [(1, .int v11), (4, .int 1), (0, .int z0), (2, .int z2), (3, .int y3)]) hx hb dX1_shrunk_88 rfl hl (by decide) rfl (fun ls hl => ?_)
                  refine lv_iinc (v := y3 + 1) (lv' := [(3, .int (y3 + 1)), (1, .int v11), (4, .int 1), (0, .int z0), (2, .int z2)]) hx hb dX1_shrunk_89 hl (k := 4) rfl rfl (by decide) rfl (fun ls hl => ?_)
                  refine lv_goto (tgt := 11) hx hb dX1_shrunk_92 (by decide) ?_
                  exact ih _ _ h ls (lv_sub hl [3, 1, 4, 0] rfl)
  have HL4 : ∀  (z0 : Int32) (K : Int32 → Int32 → Prop), (∀  (y1 : Int32) (y2 : Int32), K y1 y2 → ∀ ls : Array Slot, lv_has ls 5 [(0, .int z0), (1, .int y1), (2, .int y2)] → W p l e rm_X1_shrunk s m args below meth c s.heap [] 0 0 (MQ below (vp_Si post) args s 0 0 (fun _ => False)) (F0 m 101 ls [])) → ∀ (n : Nat)  (y1 : Int32) (y2 : Int32), itF (w_X1_shrunk_L4 z0 post K) (fun _ _ => False) n y1 y2 → ∀ ls : Array Slot, lv_has ls 5 [(0, .int z0), (1, .int y1), (2, .int y2)] → W p l e rm_X1_shrunk s m args below meth c s.heap [] 0 0 (MQ below (vp_Si post) args s 0 0 (fun _ => False)) (F0 m 4 ls []) := by
    intro z0 K hKK n
    induction n with
    | zero =>
      intro y1 y2 h
      exact absurd h id
    | succ n ih =>
      intro y1 y2 h ls hl
      have h : w_X1_shrunk_L4 z0 post K (itF (w_X1_shrunk_L4 z0 post K) (fun _ _ => False) n) y1 y2 := h
      generalize itF (w_X1_shrunk_L4 z0 post K) (fun _ _ => False) n = rec at h ih
      unfold w_X1_shrunk_L4 at h
      refine lv_iload_n hx hb dX1_shrunk_4 rfl (lv_at hl 2 rfl) ?_
      refine lv_iconst (v := 4) hx hb dX1_shrunk_5 (by decide) ?_
      refine lv_icmp_ge (tgt := 101) hx hb dX1_shrunk_6 (by decide) (fun ct => ?_) (fun ct => ?_)
      · have h := h.1 ct
        exact hKK _ _ h ls (lv_sub hl [0, 1, 2] rfl)
      · have h := h.2 ct
        refine lv_iconst (v := 0) hx hb dX1_shrunk_9 (by decide) ?_
        refine lv_istore_n (lv' := [(3, .int 0), (0, .int z0), (1, .int y1), (2, .int y2)]) hx hb dX1_shrunk_10 rfl hl (by decide) rfl (fun ls hl => ?_)
        obtain ⟨n14, h⟩ := h
        refine HL11 _ _ _ (fun v12 v13 h ls hl => ?_) n14 _ _ h  ls (lv_sub hl [1, 2, 3, 0] rfl)
        refine lv_iinc (v := y2 + 1) (lv' := [(2, .int (y2 + 1)), (0, .int z0), (1, .int v12), (3, .int v13)]) hx hb dX1_shrunk_95 hl (k := 2) rfl rfl (by decide) rfl (fun ls hl => ?_)
        refine lv_goto (tgt := 4) hx hb dX1_shrunk_98 (by decide) ?_
        exact ih _ _ h ls (lv_sub hl [1, 2, 0] rfl)
  refine lv_iconst (v := 0) hx hb dX1_shrunk_0 (by decide) ?_
  refine lv_istore_n (lv' := [(1, .int 0), (0, .int x0)]) hx hb dX1_shrunk_1 rfl hl (by decide) rfl (fun ls hl => ?_)
  refine lv_iconst (v := 0) hx hb dX1_shrunk_2 (by decide) ?_
  refine lv_istore_n (lv' := [(2, .int 0), (1, .int 0), (0, .int x0)]) hx hb dX1_shrunk_3 rfl hl (by decide) rfl (fun ls hl => ?_)
  obtain ⟨n17, h⟩ := h
  refine HL4 _ _ (fun v15 v16 h ls hl => ?_) n17 _ _ h  ls (lv_sub hl [2, 1, 0] rfl)
  refine lv_iload_n hx hb dX1_shrunk_101 rfl (lv_at hl 1 rfl) ?_
  exact rt_Si hx hb hr hlk dX1_shrunk_102 h
abbrev rm_J7_fill_53178 : Room := { frames := 0, cells := 0, slots := 0, locals := 0 }
set_option maxRecDepth 100000 in
set_option maxHeartbeats 4000000 in
theorem c_J7_fill_53178 (l : Launch) (G : va_G) (cs ts : Nat → Nat) (b : Nat) (sz : Nat) (nn : Nat) (f : (Nat → Int32))   (x1 : Int32) (post : (Nat → Int32) → Prop) (h : w_J7_fill_53178 nn f x1 post) : Met l yJ7_fill_53178 [.code yJ7_fill_53178 cJ7_fill_53178 4 none] rm_J7_fill_53178 (va_Pc [.ref b, .int x1] (CP G cs ts (flW b cs nn f) sz)) (va_Qv (fun (u : (Nat → Int32)) => post u) (CB G (va_A (flW b cs nn f) sz) (fun u => (flW b cs nn u))) (va_A (flW b cs nn f) sz)) 0 0 (va_A (flW b cs nn f) sz) := by
  refine ax_W (Qc := fun A => va_Qv (fun (u : (Nat → Int32)) => post u) (CB G A (fun u => (flW b cs nn u))) A) (by decide) (Nat.le_of_ble_eq_true rfl) sz ?_
  intro p e s m args below meth c A hx hb hr hlk hml hown hT hC hnm H locs hP hD hS ls hl
  have hK := hC.2.1
  have hA := hC.2.2
  have hl : lv_has ls 4 [(0, .ref (b)), (1, .int x1)] := hl
  unfold w_J7_fill_53178 at h
  have HL5 : ∀  (z1 : Int32) (z3 : Int32) (K : (Nat → Int32) → Int32 → Prop), (∀ (fv : (Nat → Int32)) (y2 : Int32), K fv y2 → ∀ (H : Heap) (locs : List Loc), va_P G vwCl (flW b cs nn fv) H → va_D A (flW b cs nn fv) → va_S A s.heap H locs → ∀ ls : Array Slot, lv_has ls 4 [(0, .ref (b)), (1, .int z1), (2, .int y2), (3, .int z3)] → W p l e rm_J7_fill_53178 s m args below meth c H locs 0 0 (MQ below (va_Qv (fun (u : (Nat → Int32)) => post u) (CB G A (fun u => (flW b cs nn u))) A) args s 0 0 A) (F0 m 20 ls [])) → ∀ (n : Nat) (fv : (Nat → Int32)) (y2 : Int32), itF (w_J7_fill_53178_L5 nn z1 z3 post K) (fun _ _ => False) n fv y2 → ∀ (H : Heap) (locs : List Loc), va_P G vwCl (flW b cs nn fv) H → va_D A (flW b cs nn fv) → va_S A s.heap H locs → ∀ ls : Array Slot, lv_has ls 4 [(0, .ref (b)), (1, .int z1), (2, .int y2), (3, .int z3)] → W p l e rm_J7_fill_53178 s m args below meth c H locs 0 0 (MQ below (va_Qv (fun (u : (Nat → Int32)) => post u) (CB G A (fun u => (flW b cs nn u))) A) args s 0 0 A) (F0 m 5 ls []) := by
    intro z1 z3 K hKK n
    induction n with
    | zero =>
      intro fv y2 h
      exact absurd h id
    | succ n ih =>
      intro fv y2 h H locs hP hD hS ls hl
      have h : w_J7_fill_53178_L5 nn z1 z3 post K (itF (w_J7_fill_53178_L5 nn z1 z3 post K) (fun _ _ => False) n) fv y2 := h
      generalize itF (w_J7_fill_53178_L5 nn z1 z3 post K) (fun _ _ => False) n = rec at h ih
      unfold w_J7_fill_53178_L5 at h
      refine lv_iload_n hx hb dJ7_fill_53178_5 rfl (lv_at hl 2 rfl) ?_
      refine lv_iload_n hx hb dJ7_fill_53178_6 rfl (lv_at hl 3 rfl) ?_
      refine lv_icmp_ge (tgt := 20) hx hb dJ7_fill_53178_7 (by decide) (fun ct => ?_) (fun ct => ?_)
      · have h := h.1 ct
        exact hKK _ _ h _ _ hP hD hS ls (lv_sub hl [0, 1, 2, 3] rfl)
      · have h := h.2 ct
        refine lv_aload_n hx hb dJ7_fill_53178_10 rfl (lv_at hl 0 rfl) ?_
        refine lv_iload_n hx hb dJ7_fill_53178_11 rfl (lv_at hl 2 rfl) ?_
        refine lv_iload_n hx hb dJ7_fill_53178_12 rfl (lv_at hl 1 rfl) ?_
        obtain ⟨hi, h⟩ := h
        refine va_iast hx hb hK hP hD hS 0 0 rfl rfl hi dJ7_fill_53178_13 (fun H locs hP hD hS => ?_)
        obtain ⟨f2, ef2⟩ : ∃ z : (Nat → Int32), z = upd fv y2.toNatClampNeg z1 := ⟨_, rfl⟩
        have h := h f2 ef2
        have hP : va_P G vwCl (flW b cs nn f2) H := by rw [ef2]; exact hP
        have hD : va_D A (flW b cs nn f2) := by rw [ef2]; exact hD
        refine lv_iinc (v := y2 + 1) (lv' := [(2, .int (y2 + 1)), (0, .ref (b)), (1, .int z1), (3, .int z3)]) hx hb dJ7_fill_53178_14 hl (k := 2) rfl rfl (by decide) rfl (fun ls hl => ?_)
        refine lv_goto (tgt := 5) hx hb dJ7_fill_53178_17 (by decide) ?_
        exact ih _ _ h _ _ hP hD hS ls (lv_sub hl [1, 2, 0, 3] rfl)
  refine lv_iconst (v := 0) hx hb dJ7_fill_53178_0 (by decide) ?_
  refine lv_istore_n (lv' := [(2, .int 0), (0, .ref (b)), (1, .int x1)]) hx hb dJ7_fill_53178_1 rfl hl (by decide) rfl (fun ls hl => ?_)
  refine lv_aload_n hx hb dJ7_fill_53178_2 rfl (lv_at hl 1 rfl) ?_
  refine va_alen (v := (nI nn)) hx hb hK hP 0 0 rfl rfl rfl dJ7_fill_53178_3 ?_
  refine lv_topi (fun v1 ev1 => ?_)
  have h := h v1 ev1
  refine lv_istore_n (lv' := [(3, .int v1), (2, .int 0), (0, .ref (b)), (1, .int x1)]) hx hb dJ7_fill_53178_4 rfl hl (by decide) rfl (fun ls hl => ?_)
  obtain ⟨n5, h⟩ := h
  refine HL5 _ _ _ (fun f3 v4 h H locs hP hD hS ls hl => ?_) n5 _ _ h _ _ hP hD hS ls (lv_sub hl [2, 3, 1, 0] rfl)
  exact rt_Wv hx hb hr hlk dJ7_fill_53178_20 f3 hP hD hS h
abbrev rm_J13_bitCount_95d88 : Room := { frames := 0, cells := 0, slots := 0, locals := 0 }
set_option maxRecDepth 100000 in
set_option maxHeartbeats 4000000 in
theorem c_J13_bitCount_95d88 (l : Launch) (x0 : Int64) (post : Int32 → Prop) (h : w_J13_bitCount_95d88 x0 post) : Met l yJ13_bitCount_95d88 [.code yJ13_bitCount_95d88 cJ13_bitCount_95d88 2 (some .int)] rm_J13_bitCount_95d88 (va_Pc [.long x0] TBok) (vp_Si post) 0 0 (fun _ => False) := by
  refine ax_S (by decide) (Nat.le_of_ble_eq_true rfl) ?_
  intro p e s m args below meth c hx hb hr hlk hml hown hT ls hl
  have hl : lv_has ls 2 [(0, .long x0)] := hl
  unfold w_J13_bitCount_95d88 at h
  refine lv_lload_n hx hb dJ13_bitCount_95d88_0 rfl (lv_at hl 0 rfl) ?_
  refine lv_lload_n hx hb dJ13_bitCount_95d88_1 rfl (lv_at hl 0 rfl) ?_
  refine lv_iconst (v := 1) hx hb dJ13_bitCount_95d88_2 (by decide) ?_
  refine lv_lushr (v := jlushr x0 1) hx hb dJ13_bitCount_95d88_3 rfl ?_
  refine ki_J13_314 hx hb hT hown dJ13_bitCount_95d88_4 ?_
  refine lv_land hx hb dJ13_bitCount_95d88_7 ?_
  refine lv_lsub hx hb dJ13_bitCount_95d88_8 ?_
  refine lv_topl (fun v1 ev1 => ?_)
  have h := h v1 ev1
  refine lv_lstore_n (lv' := [(0, .long v1)]) hx hb dJ13_bitCount_95d88_9 rfl hl (by decide) rfl (fun ls hl => ?_)
  refine lv_lload_n hx hb dJ13_bitCount_95d88_10 rfl (lv_at hl 0 rfl) ?_
  refine ki_J13_316 hx hb hT hown dJ13_bitCount_95d88_11 ?_
  refine lv_land hx hb dJ13_bitCount_95d88_14 ?_
  refine lv_lload_n hx hb dJ13_bitCount_95d88_15 rfl (lv_at hl 0 rfl) ?_
  refine lv_iconst (v := 2) hx hb dJ13_bitCount_95d88_16 (by decide) ?_
  refine lv_lushr (v := jlushr v1 2) hx hb dJ13_bitCount_95d88_17 rfl ?_
  refine ki_J13_316 hx hb hT hown dJ13_bitCount_95d88_18 ?_
  refine lv_land hx hb dJ13_bitCount_95d88_21 ?_
  refine lv_ladd hx hb dJ13_bitCount_95d88_22 ?_
  refine lv_topl (fun v2 ev2 => ?_)
  have h := h v2 ev2
  refine lv_lstore_n (lv' := [(0, .long v2)]) hx hb dJ13_bitCount_95d88_23 rfl hl (by decide) rfl (fun ls hl => ?_)
  refine lv_lload_n hx hb dJ13_bitCount_95d88_24 rfl (lv_at hl 0 rfl) ?_
  refine lv_lload_n hx hb dJ13_bitCount_95d88_25 rfl (lv_at hl 0 rfl) ?_
  refine lv_iconst (v := 4) hx hb dJ13_bitCount_95d88_26 (by decide) ?_
  refine lv_lushr (v := jlushr v2 4) hx hb dJ13_bitCount_95d88_27 rfl ?_
  refine lv_ladd hx hb dJ13_bitCount_95d88_28 ?_
  refine ki_J13_318 hx hb hT hown dJ13_bitCount_95d88_29 ?_
  refine lv_land hx hb dJ13_bitCount_95d88_32 ?_
  refine lv_topl (fun v3 ev3 => ?_)
  have h := h v3 ev3
  refine lv_lstore_n (lv' := [(0, .long v3)]) hx hb dJ13_bitCount_95d88_33 rfl hl (by decide) rfl (fun ls hl => ?_)
  refine lv_lload_n hx hb dJ13_bitCount_95d88_34 rfl (lv_at hl 0 rfl) ?_
  refine lv_lload_n hx hb dJ13_bitCount_95d88_35 rfl (lv_at hl 0 rfl) ?_
  refine lv_bipush (v := 8) hx hb dJ13_bitCount_95d88_36 (by decide) ?_
  refine lv_lushr (v := jlushr v3 8) hx hb dJ13_bitCount_95d88_38 rfl ?_
  refine lv_ladd hx hb dJ13_bitCount_95d88_39 ?_
  refine lv_topl (fun v4 ev4 => ?_)
  have h := h v4 ev4
  refine lv_lstore_n (lv' := [(0, .long v4)]) hx hb dJ13_bitCount_95d88_40 rfl hl (by decide) rfl (fun ls hl => ?_)
  refine lv_lload_n hx hb dJ13_bitCount_95d88_41 rfl (lv_at hl 0 rfl) ?_
  refine lv_lload_n hx hb dJ13_bitCount_95d88_42 rfl (lv_at hl 0 rfl) ?_
  refine lv_bipush (v := 16) hx hb dJ13_bitCount_95d88_43 (by decide) ?_
  refine lv_lushr (v := jlushr v4 16) hx hb dJ13_bitCount_95d88_45 rfl ?_
  refine lv_ladd hx hb dJ13_bitCount_95d88_46 ?_
  refine lv_topl (fun v5 ev5 => ?_)
  have h := h v5 ev5
  refine lv_lstore_n (lv' := [(0, .long v5)]) hx hb dJ13_bitCount_95d88_47 rfl hl (by decide) rfl (fun ls hl => ?_)
  refine lv_lload_n hx hb dJ13_bitCount_95d88_48 rfl (lv_at hl 0 rfl) ?_
  refine lv_lload_n hx hb dJ13_bitCount_95d88_49 rfl (lv_at hl 0 rfl) ?_
  refine lv_bipush (v := 32) hx hb dJ13_bitCount_95d88_50 (by decide) ?_
  refine lv_lushr (v := jlushr v5 32) hx hb dJ13_bitCount_95d88_52 rfl ?_
  refine lv_ladd hx hb dJ13_bitCount_95d88_53 ?_
  refine lv_topl (fun v6 ev6 => ?_)
  have h := h v6 ev6
  refine lv_lstore_n (lv' := [(0, .long v6)]) hx hb dJ13_bitCount_95d88_54 rfl hl (by decide) rfl (fun ls hl => ?_)
  refine lv_lload_n hx hb dJ13_bitCount_95d88_55 rfl (lv_at hl 0 rfl) ?_
  refine lv_l2i (v := v6.toInt32) hx hb dJ13_bitCount_95d88_56 rfl ?_
  refine lv_bipush (v := 127) hx hb dJ13_bitCount_95d88_57 (by decide) ?_
  refine lv_iand hx hb dJ13_bitCount_95d88_59 ?_
  exact rt_Si hx hb hr hlk dJ13_bitCount_95d88_60 h
abbrev rm_X4_isPlace : Room := { frames := 1, cells := 0, slots := 0, locals := 22 }
set_option maxRecDepth 100000 in
set_option maxHeartbeats 4000000 in
theorem c_X4_isPlace (l : Launch) (x0 : Int32) (x1 : Int32) (post : Int32 → Prop) (h : w_X4_isPlace x0 x1 post) : Met l yX4_isPlace [.code yX4_isPlace cX4_isPlace 2 (some .boolean)] rm_X4_isPlace (va_Pc [.int x0, .int x1] TBok) (vp_Si post) 0 0 (fun _ => False) := by
  refine ax_S (by decide) (Nat.le_of_ble_eq_true rfl) ?_
  intro p e s m args below meth c hx hb hr hlk hml hown hT ls hl
  have hl : lv_has ls 2 [(0, .int x0), (1, .int x1)] := hl
  unfold w_X4_isPlace at h
  refine lv_iload_n hx hb dX4_isPlace_0 rfl (lv_at hl 0 rfl) ?_
  refine lv_iconst (v := 0) hx hb dX4_isPlace_1 (by decide) ?_
  refine lv_bipush (v := 7) hx hb dX4_isPlace_2 (by decide) ?_
  refine cl_Si (rn_S (rest := []) hx hb hml hown hT hl.1 ck_X4_51 (c_X4_within l x0 0 7 _ h) ⟨rfl, rfl, (Nat.le_of_ble_eq_true rfl), (Nat.le_of_ble_eq_true rfl)⟩ ⟨Nat.zero_le _, Nat.zero_le _⟩ rfl rfl (Nat.le_of_ble_eq_true rfl) dX4_isPlace_4) (fun r1 h => ?_)
  refine lv_if_eq (tgt := 24) hx hb dX4_isPlace_7 (by decide) (fun ct => ?_) (fun ct => ?_)
  · have h := h.1 ct
    refine lv_iconst (v := 0) hx hb dX4_isPlace_24 (by decide) ?_
    exact rt_Sz hx hb hr hlk dX4_isPlace_25 rfl h
  · have h := h.2 ct
    refine lv_iload_n hx hb dX4_isPlace_10 rfl (lv_at hl 1 rfl) ?_
    refine lv_iconst (v := 0) hx hb dX4_isPlace_11 (by decide) ?_
    refine lv_bipush (v := 7) hx hb dX4_isPlace_12 (by decide) ?_
    refine cl_Si (rn_S (rest := []) hx hb hml hown hT hl.1 ck_X4_51 (c_X4_within l x1 0 7 _ h) ⟨rfl, rfl, (Nat.le_of_ble_eq_true rfl), (Nat.le_of_ble_eq_true rfl)⟩ ⟨Nat.zero_le _, Nat.zero_le _⟩ rfl rfl (Nat.le_of_ble_eq_true rfl) dX4_isPlace_14) (fun r2 h => ?_)
    refine lv_if_eq (tgt := 24) hx hb dX4_isPlace_17 (by decide) (fun ct => ?_) (fun ct => ?_)
    · have h := h.1 ct
      refine lv_iconst (v := 0) hx hb dX4_isPlace_24 (by decide) ?_
      exact rt_Sz hx hb hr hlk dX4_isPlace_25 rfl h
    · have h := h.2 ct
      refine lv_iconst (v := 1) hx hb dX4_isPlace_20 (by decide) ?_
      refine lv_goto (tgt := 25) hx hb dX4_isPlace_21 (by decide) ?_
      exact rt_Sz hx hb hr hlk dX4_isPlace_25 rfl h
abbrev rm_X4_isPrint : Room := { frames := 2, cells := 0, slots := 0, locals := 43 }
set_option maxRecDepth 100000 in
set_option maxHeartbeats 4000000 in
theorem c_X4_isPrint (l : Launch) (x0 : Int32) (x1 : Int32) (x2 : Int32) (x3 : Int32) (x4 : Int32) (post : Int32 → Prop) (h : w_X4_isPrint x0 x1 x2 x3 x4 post) : Met l yX4_isPrint [.code yX4_isPrint cX4_isPrint 5 (some .boolean)] rm_X4_isPrint (va_Pc [.int x0, .int x1, .int x2, .int x3, .int x4] TBok) (vp_Si post) 0 0 (fun _ => False) := by
  refine ax_S (by decide) (Nat.le_of_ble_eq_true rfl) ?_
  intro p e s m args below meth c hx hb hr hlk hml hown hT ls hl
  have hl : lv_has ls 5 [(0, .int x0), (1, .int x1), (2, .int x2), (3, .int x3), (4, .int x4)] := hl
  unfold w_X4_isPrint at h
  refine lv_iload_n hx hb dX4_isPrint_0 rfl (lv_at hl 0 rfl) ?_
  refine lv_iconst (v := 0) hx hb dX4_isPrint_1 (by decide) ?_
  refine lv_iconst (v := 5) hx hb dX4_isPrint_2 (by decide) ?_
  refine cl_Si (rn_S (rest := []) hx hb hml hown hT hl.1 ck_X4_51 (c_X4_within l x0 0 5 _ h) ⟨rfl, rfl, (Nat.le_of_ble_eq_true rfl), (Nat.le_of_ble_eq_true rfl)⟩ ⟨Nat.zero_le _, Nat.zero_le _⟩ rfl rfl (Nat.le_of_ble_eq_true rfl) dX4_isPrint_3) (fun r1 h => ?_)
  refine lv_if_eq (tgt := 40) hx hb dX4_isPrint_6 (by decide) (fun ct => ?_) (fun ct => ?_)
  · have h := h.1 ct
    refine lv_iconst (v := 0) hx hb dX4_isPrint_40 (by decide) ?_
    exact rt_Sz hx hb hr hlk dX4_isPrint_41 rfl h
  · have h := h.2 ct
    refine lv_iload_n hx hb dX4_isPrint_9 rfl (lv_at hl 1 rfl) ?_
    refine lv_iconst (v := 0) hx hb dX4_isPrint_10 (by decide) ?_
    refine lv_iconst (v := 1) hx hb dX4_isPrint_11 (by decide) ?_
    refine cl_Si (rn_S (rest := []) hx hb hml hown hT hl.1 ck_X4_51 (c_X4_within l x1 0 1 _ h) ⟨rfl, rfl, (Nat.le_of_ble_eq_true rfl), (Nat.le_of_ble_eq_true rfl)⟩ ⟨Nat.zero_le _, Nat.zero_le _⟩ rfl rfl (Nat.le_of_ble_eq_true rfl) dX4_isPrint_12) (fun r2 h => ?_)
    refine lv_if_eq (tgt := 40) hx hb dX4_isPrint_15 (by decide) (fun ct => ?_) (fun ct => ?_)
    · have h := h.1 ct
      refine lv_iconst (v := 0) hx hb dX4_isPrint_40 (by decide) ?_
      exact rt_Sz hx hb hr hlk dX4_isPrint_41 rfl h
    · have h := h.2 ct
      refine lv_iload_n hx hb dX4_isPrint_18 rfl (lv_at hl 2 rfl) ?_
      refine lv_iload_n hx hb dX4_isPrint_19 rfl (lv_at hl 3 rfl) ?_
      refine cl_Si (rn_S (rest := []) hx hb hml hown hT hl.1 ck_X4_119 (c_X4_isPlace l x2 x3 _ h) ⟨rfl, rfl, (Nat.le_of_ble_eq_true rfl), (Nat.le_of_ble_eq_true rfl)⟩ ⟨Nat.zero_le _, Nat.zero_le _⟩ rfl rfl (Nat.le_of_ble_eq_true rfl) dX4_isPrint_20) (fun r3 h => ?_)
      refine lv_if_eq (tgt := 40) hx hb dX4_isPrint_23 (by decide) (fun ct => ?_) (fun ct => ?_)
      · have h := h.1 ct
        refine lv_iconst (v := 0) hx hb dX4_isPrint_40 (by decide) ?_
        exact rt_Sz hx hb hr hlk dX4_isPrint_41 rfl h
      · have h := h.2 ct
        refine lv_iload hx hb dX4_isPrint_26 (lv_at hl 4 rfl) ?_
        refine lv_iconst (v := 0) hx hb dX4_isPrint_28 (by decide) ?_
        refine lv_iconst (v := 3) hx hb dX4_isPrint_29 (by decide) ?_
        refine cl_Si (rn_S (rest := []) hx hb hml hown hT hl.1 ck_X4_51 (c_X4_within l x4 0 3 _ h) ⟨rfl, rfl, (Nat.le_of_ble_eq_true rfl), (Nat.le_of_ble_eq_true rfl)⟩ ⟨Nat.zero_le _, Nat.zero_le _⟩ rfl rfl (Nat.le_of_ble_eq_true rfl) dX4_isPrint_30) (fun r4 h => ?_)
        refine lv_if_eq (tgt := 40) hx hb dX4_isPrint_33 (by decide) (fun ct => ?_) (fun ct => ?_)
        · have h := h.1 ct
          refine lv_iconst (v := 0) hx hb dX4_isPrint_40 (by decide) ?_
          exact rt_Sz hx hb hr hlk dX4_isPrint_41 rfl h
        · have h := h.2 ct
          refine lv_iconst (v := 1) hx hb dX4_isPrint_36 (by decide) ?_
          refine lv_goto (tgt := 41) hx hb dX4_isPrint_37 (by decide) ?_
          exact rt_Sz hx hb hr hlk dX4_isPrint_41 rfl h
abbrev rm_X4_isDip : Room := { frames := 1, cells := 0, slots := 0, locals := 22 }
set_option maxRecDepth 100000 in
set_option maxHeartbeats 4000000 in
theorem c_X4_isDip (l : Launch) (x0 : Int32) (x1 : Int32) (post : Int32 → Prop) (h : w_X4_isDip x0 x1 post) : Met l yX4_isDip [.code yX4_isDip cX4_isDip 2 (some .boolean)] rm_X4_isDip (va_Pc [.int x0, .int x1] TBok) (vp_Si post) 0 0 (fun _ => False) := by
  refine ax_S (by decide) (Nat.le_of_ble_eq_true rfl) ?_
  intro p e s m args below meth c hx hb hr hlk hml hown hT ls hl
  have hl : lv_has ls 2 [(0, .int x0), (1, .int x1)] := hl
  unfold w_X4_isDip at h
  refine lv_iload_n hx hb dX4_isDip_0 rfl (lv_at hl 0 rfl) ?_
  refine lv_iconst (v := 0) hx hb dX4_isDip_1 (by decide) ?_
  refine lv_iconst (v := 5) hx hb dX4_isDip_2 (by decide) ?_
  refine cl_Si (rn_S (rest := []) hx hb hml hown hT hl.1 ck_X4_51 (c_X4_within l x0 0 5 _ h) ⟨rfl, rfl, (Nat.le_of_ble_eq_true rfl), (Nat.le_of_ble_eq_true rfl)⟩ ⟨Nat.zero_le _, Nat.zero_le _⟩ rfl rfl (Nat.le_of_ble_eq_true rfl) dX4_isDip_3) (fun r1 h => ?_)
  refine lv_if_eq (tgt := 23) hx hb dX4_isDip_6 (by decide) (fun ct => ?_) (fun ct => ?_)
  · have h := h.1 ct
    refine lv_iconst (v := 0) hx hb dX4_isDip_23 (by decide) ?_
    exact rt_Sz hx hb hr hlk dX4_isDip_24 rfl h
  · have h := h.2 ct
    refine lv_iload_n hx hb dX4_isDip_9 rfl (lv_at hl 1 rfl) ?_
    refine lv_iconst (v := 0) hx hb dX4_isDip_10 (by decide) ?_
    refine lv_bipush (v := 12) hx hb dX4_isDip_11 (by decide) ?_
    refine cl_Si (rn_S (rest := []) hx hb hml hown hT hl.1 ck_X4_51 (c_X4_within l x1 0 12 _ h) ⟨rfl, rfl, (Nat.le_of_ble_eq_true rfl), (Nat.le_of_ble_eq_true rfl)⟩ ⟨Nat.zero_le _, Nat.zero_le _⟩ rfl rfl (Nat.le_of_ble_eq_true rfl) dX4_isDip_13) (fun r2 h => ?_)
    refine lv_if_eq (tgt := 23) hx hb dX4_isDip_16 (by decide) (fun ct => ?_) (fun ct => ?_)
    · have h := h.1 ct
      refine lv_iconst (v := 0) hx hb dX4_isDip_23 (by decide) ?_
      exact rt_Sz hx hb hr hlk dX4_isDip_24 rfl h
    · have h := h.2 ct
      refine lv_iconst (v := 1) hx hb dX4_isDip_19 (by decide) ?_
      refine lv_goto (tgt := 24) hx hb dX4_isDip_20 (by decide) ?_
      exact rt_Sz hx hb hr hlk dX4_isDip_24 rfl h
abbrev rm_X4_wholePrints : Room := { frames := 0, cells := 0, slots := 0, locals := 0 }
set_option maxRecDepth 100000 in
set_option maxHeartbeats 4000000 in
theorem c_X4_wholePrints (l : Launch) (x0 : Int32) (x1 : Int32) (post : Int32 → Prop) (h : w_X4_wholePrints x0 x1 post) : Met l yX4_wholePrints [.code yX4_wholePrints cX4_wholePrints 3 (some .int)] rm_X4_wholePrints (va_Pc [.int x0, .int x1] TBok) (vp_Si post) 0 0 (fun _ => False) := by
  refine ax_S (by decide) (Nat.le_of_ble_eq_true rfl) ?_
  intro p e s m args below meth c hx hb hr hlk hml hown hT ls hl
  have hl : lv_has ls 3 [(0, .int x0), (1, .int x1)] := hl
  unfold w_X4_wholePrints at h
  refine lv_iconst (v := 4) hx hb dX4_wholePrints_0 (by decide) ?_
  refine lv_iload_n hx hb dX4_wholePrints_1 rfl (lv_at hl 1 rfl) ?_
  refine lv_iadd hx hb dX4_wholePrints_2 ?_
  refine lv_topi (fun v1 ev1 => ?_)
  have h := h v1 ev1
  refine lv_istore_n (lv' := [(2, .int v1), (0, .int x0), (1, .int x1)]) hx hb dX4_wholePrints_3 rfl hl (by decide) rfl (fun ls hl => ?_)
  refine lv_iload_n hx hb dX4_wholePrints_4 rfl (lv_at hl 0 rfl) ?_
  refine lv_if_le (tgt := 16) hx hb dX4_wholePrints_5 (by decide) (fun ct => ?_) (fun ct => ?_)
  · have h := h.1 ct
    refine lv_iconst (v := 0) hx hb dX4_wholePrints_16 (by decide) ?_
    exact rt_Si hx hb hr hlk dX4_wholePrints_17 h
  · have h := h.2 ct
    refine lv_iload_n hx hb dX4_wholePrints_8 rfl (lv_at hl 1 rfl) ?_
    refine lv_iload_n hx hb dX4_wholePrints_9 rfl (lv_at hl 2 rfl) ?_
    refine lv_iadd hx hb dX4_wholePrints_10 ?_
    refine lv_iload_n hx hb dX4_wholePrints_11 rfl (lv_at hl 0 rfl) ?_
    obtain ⟨hi, h⟩ := h
    refine lv_idiv hx hb dX4_wholePrints_12 hi ?_
    refine lv_goto (tgt := 17) hx hb dX4_wholePrints_13 (by decide) ?_
    exact rt_Si hx hb hr hlk dX4_wholePrints_17 h
abbrev rm_X4_leftOfEdge : Room := { frames := 1, cells := 0, slots := 0, locals := 22 }
set_option maxRecDepth 100000 in
set_option maxHeartbeats 4000000 in
theorem c_X4_leftOfEdge (l : Launch) (x0 : Int32) (x1 : Int32) (post : Int32 → Prop) (h : w_X4_leftOfEdge x0 x1 post) : Met l yX4_leftOfEdge [.code yX4_leftOfEdge cX4_leftOfEdge 3 (some .int)] rm_X4_leftOfEdge (va_Pc [.int x0, .int x1] TBok) (vp_Si post) 0 0 (fun _ => False) := by
  refine ax_S (by decide) (Nat.le_of_ble_eq_true rfl) ?_
  intro p e s m args below meth c hx hb hr hlk hml hown hT ls hl
  have hl : lv_has ls 3 [(0, .int x0), (1, .int x1)] := hl
  unfold w_X4_leftOfEdge at h
  refine lv_iload_n hx hb dX4_leftOfEdge_0 rfl (lv_at hl 0 rfl) ?_
  refine lv_iload_n hx hb dX4_leftOfEdge_1 rfl (lv_at hl 1 rfl) ?_
  refine cl_Si (rn_S (rest := []) hx hb hml hown hT hl.1 ck_X4_150 (c_X4_wholePrints l x0 x1 _ h) ⟨rfl, rfl, (Nat.le_of_ble_eq_true rfl), (Nat.le_of_ble_eq_true rfl)⟩ ⟨Nat.zero_le _, Nat.zero_le _⟩ rfl rfl (Nat.le_of_ble_eq_true rfl) dX4_leftOfEdge_2) (fun r1 h => ?_)
  refine lv_istore_n (lv' := [(2, .int r1), (0, .int x0), (1, .int x1)]) hx hb dX4_leftOfEdge_5 rfl hl (by decide) rfl (fun ls hl => ?_)
  refine lv_iload_n hx hb dX4_leftOfEdge_6 rfl (lv_at hl 1 rfl) ?_
  refine lv_iload_n hx hb dX4_leftOfEdge_7 rfl (lv_at hl 2 rfl) ?_
  refine lv_iadd hx hb dX4_leftOfEdge_8 ?_
  refine lv_iload_n hx hb dX4_leftOfEdge_9 rfl (lv_at hl 0 rfl) ?_
  refine lv_iconst (v := 4) hx hb dX4_leftOfEdge_10 (by decide) ?_
  refine lv_iload_n hx hb dX4_leftOfEdge_11 rfl (lv_at hl 2 rfl) ?_
  refine lv_iadd hx hb dX4_leftOfEdge_12 ?_
  refine lv_imul hx hb dX4_leftOfEdge_13 ?_
  refine lv_isub hx hb dX4_leftOfEdge_14 ?_
  exact rt_Si hx hb hr hlk dX4_leftOfEdge_15 h
abbrev rm_X4_isWhollyOnSheet : Room := { frames := 0, cells := 0, slots := 0, locals := 0 }
set_option maxRecDepth 100000 in
set_option maxHeartbeats 4000000 in
theorem c_X4_isWhollyOnSheet (l : Launch) (x0 : Int32) (post : Int32 → Prop) (h : w_X4_isWhollyOnSheet x0 post) : Met l yX4_isWhollyOnSheet [.code yX4_isWhollyOnSheet cX4_isWhollyOnSheet 1 (some .boolean)] rm_X4_isWhollyOnSheet (va_Pc [.int x0] TBok) (vp_Si post) 0 0 (fun _ => False) := by
  refine ax_S (by decide) (Nat.le_of_ble_eq_true rfl) ?_
  intro p e s m args below meth c hx hb hr hlk hml hown hT ls hl
  have hl : lv_has ls 1 [(0, .int x0)] := hl
  unfold w_X4_isWhollyOnSheet at h
  refine lv_iload_n hx hb dX4_isWhollyOnSheet_0 rfl (lv_at hl 0 rfl) ?_
  refine lv_bipush (v := 8) hx hb dX4_isWhollyOnSheet_1 (by decide) ?_
  refine lv_idiv hx hb dX4_isWhollyOnSheet_3 (by decide) ?_
  refine lv_bipush (v := 8) hx hb dX4_isWhollyOnSheet_4 (by decide) ?_
  refine lv_irem hx hb dX4_isWhollyOnSheet_6 (by decide) ?_
  refine lv_iconst (v := 4) hx hb dX4_isWhollyOnSheet_7 (by decide) ?_
  refine lv_icmp_gt (tgt := 23) hx hb dX4_isWhollyOnSheet_8 (by decide) (fun ct => ?_) (fun ct => ?_)
  · have h := h.1 ct
    refine lv_iconst (v := 0) hx hb dX4_isWhollyOnSheet_23 (by decide) ?_
    exact rt_Sz hx hb hr hlk dX4_isWhollyOnSheet_24 rfl h
  · have h := h.2 ct
    refine lv_iload_n hx hb dX4_isWhollyOnSheet_11 rfl (lv_at hl 0 rfl) ?_
    refine lv_bipush (v := 8) hx hb dX4_isWhollyOnSheet_12 (by decide) ?_
    refine lv_irem hx hb dX4_isWhollyOnSheet_14 (by decide) ?_
    refine lv_iconst (v := 4) hx hb dX4_isWhollyOnSheet_15 (by decide) ?_
    refine lv_icmp_gt (tgt := 23) hx hb dX4_isWhollyOnSheet_16 (by decide) (fun ct => ?_) (fun ct => ?_)
    · have h := h.1 ct
      refine lv_iconst (v := 0) hx hb dX4_isWhollyOnSheet_23 (by decide) ?_
      exact rt_Sz hx hb hr hlk dX4_isWhollyOnSheet_24 rfl h
    · have h := h.2 ct
      refine lv_iconst (v := 1) hx hb dX4_isWhollyOnSheet_19 (by decide) ?_
      refine lv_goto (tgt := 24) hx hb dX4_isWhollyOnSheet_20 (by decide) ?_
      exact rt_Sz hx hb hr hlk dX4_isWhollyOnSheet_24 rfl h
abbrev rm_X4_placingNumber : Room := { frames := 0, cells := 0, slots := 0, locals := 0 }
set_option maxRecDepth 100000 in
set_option maxHeartbeats 4000000 in
theorem c_X4_placingNumber (l : Launch) (x0 : Int32) (post : Int32 → Prop) (h : w_X4_placingNumber x0 post) : Met l yX4_placingNumber [.code yX4_placingNumber cX4_placingNumber 1 (some .int)] rm_X4_placingNumber (va_Pc [.int x0] TBok) (vp_Si post) 0 0 (fun _ => False) := by
  refine ax_S (by decide) (Nat.le_of_ble_eq_true rfl) ?_
  intro p e s m args below meth c hx hb hr hlk hml hown hT ls hl
  have hl : lv_has ls 1 [(0, .int x0)] := hl
  unfold w_X4_placingNumber at h
  refine lv_bipush (v := 100) hx hb dX4_placingNumber_0 (by decide) ?_
  refine lv_iload_n hx hb dX4_placingNumber_2 rfl (lv_at hl 0 rfl) ?_
  refine lv_bipush (v := 64) hx hb dX4_placingNumber_3 (by decide) ?_
  refine lv_idiv hx hb dX4_placingNumber_5 (by decide) ?_
  refine lv_imul hx hb dX4_placingNumber_6 ?_
  refine lv_bipush (v := 10) hx hb dX4_placingNumber_7 (by decide) ?_
  refine lv_iload_n hx hb dX4_placingNumber_9 rfl (lv_at hl 0 rfl) ?_
  refine lv_bipush (v := 8) hx hb dX4_placingNumber_10 (by decide) ?_
  refine lv_idiv hx hb dX4_placingNumber_12 (by decide) ?_
  refine lv_bipush (v := 8) hx hb dX4_placingNumber_13 (by decide) ?_
  refine lv_irem hx hb dX4_placingNumber_15 (by decide) ?_
  refine lv_imul hx hb dX4_placingNumber_16 ?_
  refine lv_iadd hx hb dX4_placingNumber_17 ?_
  refine lv_iload_n hx hb dX4_placingNumber_18 rfl (lv_at hl 0 rfl) ?_
  refine lv_bipush (v := 8) hx hb dX4_placingNumber_19 (by decide) ?_
  refine lv_irem hx hb dX4_placingNumber_21 (by decide) ?_
  refine lv_iadd hx hb dX4_placingNumber_22 ?_
  exact rt_Si hx hb hr hlk dX4_placingNumber_23 h
abbrev rm_X4_fits : Room := { frames := 0, cells := 0, slots := 0, locals := 0 }
set_option maxRecDepth 100000 in
set_option maxHeartbeats 4000000 in
theorem c_X4_fits (l : Launch) (x0 : Int64) (x2 : Int64) (x4 : Int64) (post : Int32 → Prop) (h : w_X4_fits x0 x2 x4 post) : Met l yX4_fits [.code yX4_fits cX4_fits 6 (some .boolean)] rm_X4_fits (va_Pc [.long x0, .long x2, .long x4] TBok) (vp_Si post) 0 0 (fun _ => False) := by
  refine ax_S (by decide) (Nat.le_of_ble_eq_true rfl) ?_
  intro p e s m args below meth c hx hb hr hlk hml hown hT ls hl
  have hl : lv_has ls 6 [(0, .long x0), (2, .long x2), (4, .long x4)] := hl
  unfold w_X4_fits at h
  refine lv_lload_n hx hb dX4_fits_0 rfl (lv_at hl 1 rfl) ?_
  refine lv_lload_n hx hb dX4_fits_1 rfl (lv_at hl 0 rfl) ?_
  refine ki_X4_219 hx hb hT hown dX4_fits_2 ?_
  refine lv_lxor hx hb dX4_fits_5 ?_
  refine lv_land hx hb dX4_fits_6 ?_
  refine lv_lconst (v := 0) hx hb dX4_fits_7 (by decide) ?_
  refine W.lcmp hx hb dX4_fits_8 ?_
  refine lv_if_ne (tgt := 25) hx hb dX4_fits_9 (by decide) (fun ct => ?_) (fun ct => ?_)
  · have h := h.1 ct
    refine lv_iconst (v := 0) hx hb dX4_fits_25 (by decide) ?_
    exact rt_Sz hx hb hr hlk dX4_fits_26 rfl h
  · have h := h.2 ct
    refine lv_lload hx hb dX4_fits_12 (lv_at hl 2 rfl) ?_
    refine lv_lload_n hx hb dX4_fits_14 rfl (lv_at hl 0 rfl) ?_
    refine lv_land hx hb dX4_fits_15 ?_
    refine lv_lconst (v := 0) hx hb dX4_fits_16 (by decide) ?_
    refine W.lcmp hx hb dX4_fits_17 ?_
    refine lv_if_ne (tgt := 25) hx hb dX4_fits_18 (by decide) (fun ct => ?_) (fun ct => ?_)
    · have h := h.1 ct
      refine lv_iconst (v := 0) hx hb dX4_fits_25 (by decide) ?_
      exact rt_Sz hx hb hr hlk dX4_fits_26 rfl h
    · have h := h.2 ct
      refine lv_iconst (v := 1) hx hb dX4_fits_21 (by decide) ?_
      refine lv_goto (tgt := 26) hx hb dX4_fits_22 (by decide) ?_
      exact rt_Sz hx hb hr hlk dX4_fits_26 rfl h
abbrev rm_X4_nextNumber : Room := { frames := 0, cells := 0, slots := 0, locals := 0 }
set_option maxRecDepth 100000 in
set_option maxHeartbeats 4000000 in
theorem c_X4_nextNumber (l : Launch) (x0 : Int64) (post : Int64 → Prop) (h : w_X4_nextNumber x0 post) : Met l yX4_nextNumber [.code yX4_nextNumber cX4_nextNumber 2 (some .long)] rm_X4_nextNumber (va_Pc [.long x0] TBok) (vp_Sl post) 0 0 (fun _ => False) := by
  refine ax_S (by decide) (Nat.le_of_ble_eq_true rfl) ?_
  intro p e s m args below meth c hx hb hr hlk hml hown hT ls hl
  have hl : lv_has ls 2 [(0, .long x0)] := hl
  unfold w_X4_nextNumber at h
  refine lv_lload_n hx hb dX4_nextNumber_0 rfl (lv_at hl 0 rfl) ?_
  refine ki_X4_250 hx hb hT hown dX4_nextNumber_1 ?_
  refine lv_lmul hx hb dX4_nextNumber_4 ?_
  refine ki_X4_252 hx hb hT hown dX4_nextNumber_5 ?_
  refine lv_ladd hx hb dX4_nextNumber_8 ?_
  refine ki_X4_254 hx hb hT hown dX4_nextNumber_9 ?_
  refine lv_lrem hx hb dX4_nextNumber_12 (by decide) ?_
  exact rt_Sl hx hb hr hlk dX4_nextNumber_13 h
abbrev rm_X4_drawn : Room := { frames := 0, cells := 0, slots := 0, locals := 0 }
set_option maxRecDepth 100000 in
set_option maxHeartbeats 4000000 in
theorem c_X4_drawn (l : Launch) (x0 : Int64) (x2 : Int32) (post : Int32 → Prop) (h : w_X4_drawn x0 x2 post) : Met l yX4_drawn [.code yX4_drawn cX4_drawn 3 (some .int)] rm_X4_drawn (va_Pc [.long x0, .int x2] TBok) (vp_Si post) 0 0 (fun _ => False) := by
  refine ax_S (by decide) (Nat.le_of_ble_eq_true rfl) ?_
  intro p e s m args below meth c hx hb hr hlk hml hown hT ls hl
  have hl : lv_has ls 3 [(0, .long x0), (2, .int x2)] := hl
  unfold w_X4_drawn at h
  refine lv_iload_n hx hb dX4_drawn_0 rfl (lv_at hl 1 rfl) ?_
  refine lv_if_ge (tgt := 8) hx hb dX4_drawn_1 (by decide) (fun ct => ?_) (fun ct => ?_)
  · have h := h.1 ct
    refine lv_lload_n hx hb dX4_drawn_8 rfl (lv_at hl 0 rfl) ?_
    refine ki_X4_256 hx hb hT hown dX4_drawn_9 ?_
    refine lv_ldiv hx hb dX4_drawn_12 (by decide) ?_
    refine lv_iload_n hx hb dX4_drawn_13 rfl (lv_at hl 1 rfl) ?_
    refine lv_iconst (v := 1) hx hb dX4_drawn_14 (by decide) ?_
    refine lv_iadd hx hb dX4_drawn_15 ?_
    refine lv_i2l (v := (x2 + 1).toInt64) hx hb dX4_drawn_16 rfl ?_
    obtain ⟨hi, h⟩ := h
    refine lv_lrem hx hb dX4_drawn_17 hi ?_
    refine lv_l2i (v := (jlrem (x0 / 65536) ((x2 + 1).toInt64)).toInt32) hx hb dX4_drawn_18 rfl ?_
    exact rt_Si hx hb hr hlk dX4_drawn_19 h
  · have h := h.2 ct
    refine lv_iconst (v := 0) hx hb dX4_drawn_4 (by decide) ?_
    refine lv_goto (tgt := 19) hx hb dX4_drawn_5 (by decide) ?_
    exact rt_Si hx hb hr hlk dX4_drawn_19 h
abbrev rm_X5_in : Room := { frames := 0, cells := 0, slots := 0, locals := 0 }
set_option maxRecDepth 100000 in
set_option maxHeartbeats 4000000 in
theorem c_X5_in (l : Launch) (x0 : Int64) (x2 : Int64) (x4 : Int64) (post : Int32 → Prop) (h : w_X5_in x0 x2 x4 post) : Met l yX5_in [.code yX5_in cX5_in 6 (some .boolean)] rm_X5_in (va_Pc [.long x0, .long x2, .long x4] TBok) (vp_Si post) 0 0 (fun _ => False) := by
  refine ax_S (by decide) (Nat.le_of_ble_eq_true rfl) ?_
  intro p e s m args below meth c hx hb hr hlk hml hown hT ls hl
  have hl : lv_has ls 6 [(0, .long x0), (2, .long x2), (4, .long x4)] := hl
  unfold w_X5_in at h
  refine lv_lload_n hx hb dX5_in_0 rfl (lv_at hl 0 rfl) ?_
  refine lv_lload_n hx hb dX5_in_1 rfl (lv_at hl 1 rfl) ?_
  refine W.lcmp hx hb dX5_in_2 ?_
  refine lv_if_lt (tgt := 17) hx hb dX5_in_3 (by decide) (fun ct => ?_) (fun ct => ?_)
  · have h := h.1 ct
    refine lv_iconst (v := 0) hx hb dX5_in_17 (by decide) ?_
    exact rt_Sz hx hb hr hlk dX5_in_18 rfl h
  · have h := h.2 ct
    refine lv_lload_n hx hb dX5_in_6 rfl (lv_at hl 0 rfl) ?_
    refine lv_lload hx hb dX5_in_7 (lv_at hl 2 rfl) ?_
    refine W.lcmp hx hb dX5_in_9 ?_
    refine lv_if_gt (tgt := 17) hx hb dX5_in_10 (by decide) (fun ct => ?_) (fun ct => ?_)
    · have h := h.1 ct
      refine lv_iconst (v := 0) hx hb dX5_in_17 (by decide) ?_
      exact rt_Sz hx hb hr hlk dX5_in_18 rfl h
    · have h := h.2 ct
      refine lv_iconst (v := 1) hx hb dX5_in_13 (by decide) ?_
      refine lv_goto (tgt := 18) hx hb dX5_in_14 (by decide) ?_
      exact rt_Sz hx hb hr hlk dX5_in_18 rfl h
abbrev rm_X5_has : Room := { frames := 0, cells := 0, slots := 0, locals := 0 }
set_option maxRecDepth 100000 in
set_option maxHeartbeats 4000000 in
theorem c_X5_has (l : Launch) (x0 : Int32) (x1 : Int32) (post : Int32 → Prop) (h : w_X5_has x0 x1 post) : Met l yX5_has [.code yX5_has cX5_has 2 (some .boolean)] rm_X5_has (va_Pc [.int x0, .int x1] TBok) (vp_Si post) 0 0 (fun _ => False) := by
  refine ax_S (by decide) (Nat.le_of_ble_eq_true rfl) ?_
  intro p e s m args below meth c hx hb hr hlk hml hown hT ls hl
  have hl : lv_has ls 2 [(0, .int x0), (1, .int x1)] := hl
  unfold w_X5_has at h
  refine lv_iload_n hx hb dX5_has_0 rfl (lv_at hl 0 rfl) ?_
  refine lv_iload_n hx hb dX5_has_1 rfl (lv_at hl 1 rfl) ?_
  refine lv_ishr hx hb dX5_has_2 ?_
  refine lv_iconst (v := 1) hx hb dX5_has_3 (by decide) ?_
  refine lv_iand hx hb dX5_has_4 ?_
  refine lv_iconst (v := 1) hx hb dX5_has_5 (by decide) ?_
  refine lv_icmp_ne (tgt := 13) hx hb dX5_has_6 (by decide) (fun ct => ?_) (fun ct => ?_)
  · have h := h.1 ct
    refine lv_iconst (v := 0) hx hb dX5_has_13 (by decide) ?_
    exact rt_Sz hx hb hr hlk dX5_has_14 rfl h
  · have h := h.2 ct
    refine lv_iconst (v := 1) hx hb dX5_has_9 (by decide) ?_
    refine lv_goto (tgt := 14) hx hb dX5_has_10 (by decide) ?_
    exact rt_Sz hx hb hr hlk dX5_has_14 rfl h
abbrev rm_X5_isWhat : Room := { frames := 1, cells := 0, slots := 0, locals := 25 }
set_option maxRecDepth 100000 in
set_option maxHeartbeats 4000000 in
theorem c_X5_isWhat (l : Launch) (x0 : Int32) (post : Int32 → Prop) (h : w_X5_isWhat x0 post) : Met l yX5_isWhat [.code yX5_isWhat cX5_isWhat 1 (some .boolean)] rm_X5_isWhat (va_Pc [.int x0] TBok) (vp_Si post) 0 0 (fun _ => False) := by
  refine ax_S (by decide) (Nat.le_of_ble_eq_true rfl) ?_
  intro p e s m args below meth c hx hb hr hlk hml hown hT ls hl
  have hl : lv_has ls 1 [(0, .int x0)] := hl
  unfold w_X5_isWhat at h
  refine lv_iload_n hx hb dX5_isWhat_0 rfl (lv_at hl 0 rfl) ?_
  refine lv_i2l (v := x0.toInt64) hx hb dX5_isWhat_1 rfl ?_
  refine lv_lconst (v := 0) hx hb dX5_isWhat_2 (by decide) ?_
  refine lv_lconst (v := 1) hx hb dX5_isWhat_3 (by decide) ?_
  refine cl_Si (rn_S (rest := []) hx hb hml hown hT hl.1 ck_X5_54 (c_X5_in l x0.toInt64 0 1 _ h) ⟨rfl, rfl, (Nat.le_of_ble_eq_true rfl), (Nat.le_of_ble_eq_true rfl)⟩ ⟨Nat.zero_le _, Nat.zero_le _⟩ rfl rfl (Nat.le_of_ble_eq_true rfl) dX5_isWhat_4) (fun r1 h => ?_)
  exact rt_Sz hx hb hr hlk dX5_isWhat_7 h.1 h.2
abbrev rm_X5_isPlace : Room := { frames := 1, cells := 0, slots := 0, locals := 25 }
set_option maxRecDepth 100000 in
set_option maxHeartbeats 4000000 in
theorem c_X5_isPlace (l : Launch) (x0 : Int32) (x1 : Int32) (post : Int32 → Prop) (h : w_X5_isPlace x0 x1 post) : Met l yX5_isPlace [.code yX5_isPlace cX5_isPlace 2 (some .boolean)] rm_X5_isPlace (va_Pc [.int x0, .int x1] TBok) (vp_Si post) 0 0 (fun _ => False) := by
  refine ax_S (by decide) (Nat.le_of_ble_eq_true rfl) ?_
  intro p e s m args below meth c hx hb hr hlk hml hown hT ls hl
  have hl : lv_has ls 2 [(0, .int x0), (1, .int x1)] := hl
  unfold w_X5_isPlace at h
  refine lv_iload_n hx hb dX5_isPlace_0 rfl (lv_at hl 0 rfl) ?_
  refine lv_i2l (v := x0.toInt64) hx hb dX5_isPlace_1 rfl ?_
  refine lv_lconst (v := 0) hx hb dX5_isPlace_2 (by decide) ?_
  refine ki_X5_58 hx hb hT hown dX5_isPlace_3 ?_
  refine cl_Si (rn_S (rest := []) hx hb hml hown hT hl.1 ck_X5_54 (c_X5_in l x0.toInt64 0 7 _ h) ⟨rfl, rfl, (Nat.le_of_ble_eq_true rfl), (Nat.le_of_ble_eq_true rfl)⟩ ⟨Nat.zero_le _, Nat.zero_le _⟩ rfl rfl (Nat.le_of_ble_eq_true rfl) dX5_isPlace_6) (fun r1 h => ?_)
  refine lv_if_eq (tgt := 28) hx hb dX5_isPlace_9 (by decide) (fun ct => ?_) (fun ct => ?_)
  · have h := h.1 ct
    refine lv_iconst (v := 0) hx hb dX5_isPlace_28 (by decide) ?_
    exact rt_Sz hx hb hr hlk dX5_isPlace_29 rfl h
  · have h := h.2 ct
    refine lv_iload_n hx hb dX5_isPlace_12 rfl (lv_at hl 1 rfl) ?_
    refine lv_i2l (v := x1.toInt64) hx hb dX5_isPlace_13 rfl ?_
    refine lv_lconst (v := 0) hx hb dX5_isPlace_14 (by decide) ?_
    refine ki_X5_58 hx hb hT hown dX5_isPlace_15 ?_
    refine cl_Si (rn_S (rest := []) hx hb hml hown hT hl.1 ck_X5_54 (c_X5_in l x1.toInt64 0 7 _ h) ⟨rfl, rfl, (Nat.le_of_ble_eq_true rfl), (Nat.le_of_ble_eq_true rfl)⟩ ⟨Nat.zero_le _, Nat.zero_le _⟩ rfl rfl (Nat.le_of_ble_eq_true rfl) dX5_isPlace_18) (fun r2 h => ?_)
    refine lv_if_eq (tgt := 28) hx hb dX5_isPlace_21 (by decide) (fun ct => ?_) (fun ct => ?_)
    · have h := h.1 ct
      refine lv_iconst (v := 0) hx hb dX5_isPlace_28 (by decide) ?_
      exact rt_Sz hx hb hr hlk dX5_isPlace_29 rfl h
    · have h := h.2 ct
      refine lv_iconst (v := 1) hx hb dX5_isPlace_24 (by decide) ?_
      refine lv_goto (tgt := 29) hx hb dX5_isPlace_25 (by decide) ?_
      exact rt_Sz hx hb hr hlk dX5_isPlace_29 rfl h
abbrev rm_X5_isPrint : Room := { frames := 2, cells := 0, slots := 0, locals := 46 }
set_option maxRecDepth 100000 in
set_option maxHeartbeats 4000000 in
theorem c_X5_isPrint (l : Launch) (x0 : Int32) (x1 : Int32) (x2 : Int32) (x3 : Int32) (x4 : Int32) (post : Int32 → Prop) (h : w_X5_isPrint x0 x1 x2 x3 x4 post) : Met l yX5_isPrint [.code yX5_isPrint cX5_isPrint 5 (some .boolean)] rm_X5_isPrint (va_Pc [.int x0, .int x1, .int x2, .int x3, .int x4] TBok) (vp_Si post) 0 0 (fun _ => False) := by
  refine ax_S (by decide) (Nat.le_of_ble_eq_true rfl) ?_
  intro p e s m args below meth c hx hb hr hlk hml hown hT ls hl
  have hl : lv_has ls 5 [(0, .int x0), (1, .int x1), (2, .int x2), (3, .int x3), (4, .int x4)] := hl
  unfold w_X5_isPrint at h
  refine lv_iload_n hx hb dX5_isPrint_0 rfl (lv_at hl 0 rfl) ?_
  refine lv_i2l (v := x0.toInt64) hx hb dX5_isPrint_1 rfl ?_
  refine lv_lconst (v := 0) hx hb dX5_isPrint_2 (by decide) ?_
  refine ki_X5_60 hx hb hT hown dX5_isPrint_3 ?_
  refine cl_Si (rn_S (rest := []) hx hb hml hown hT hl.1 ck_X5_54 (c_X5_in l x0.toInt64 0 5 _ h) ⟨rfl, rfl, (Nat.le_of_ble_eq_true rfl), (Nat.le_of_ble_eq_true rfl)⟩ ⟨Nat.zero_le _, Nat.zero_le _⟩ rfl rfl (Nat.le_of_ble_eq_true rfl) dX5_isPrint_6) (fun r1 h => ?_)
  refine lv_if_eq (tgt := 44) hx hb dX5_isPrint_9 (by decide) (fun ct => ?_) (fun ct => ?_)
  · have h := h.1 ct
    refine lv_iconst (v := 0) hx hb dX5_isPrint_44 (by decide) ?_
    exact rt_Sz hx hb hr hlk dX5_isPrint_45 rfl h
  · have h := h.2 ct
    refine lv_iload_n hx hb dX5_isPrint_12 rfl (lv_at hl 1 rfl) ?_
    refine cl_Si (rn_S (rest := []) hx hb hml hown hT hl.1 ck_X5_62 (c_X5_isWhat l x1 _ h) ⟨rfl, rfl, (Nat.le_of_ble_eq_true rfl), (Nat.le_of_ble_eq_true rfl)⟩ ⟨Nat.zero_le _, Nat.zero_le _⟩ rfl rfl (Nat.le_of_ble_eq_true rfl) dX5_isPrint_13) (fun r2 h => ?_)
    refine lv_if_eq (tgt := 44) hx hb dX5_isPrint_16 (by decide) (fun ct => ?_) (fun ct => ?_)
    · have h := h.1 ct
      refine lv_iconst (v := 0) hx hb dX5_isPrint_44 (by decide) ?_
      exact rt_Sz hx hb hr hlk dX5_isPrint_45 rfl h
    · have h := h.2 ct
      refine lv_iload_n hx hb dX5_isPrint_19 rfl (lv_at hl 2 rfl) ?_
      refine lv_iload_n hx hb dX5_isPrint_20 rfl (lv_at hl 3 rfl) ?_
      refine cl_Si (rn_S (rest := []) hx hb hml hown hT hl.1 ck_X5_66 (c_X5_isPlace l x2 x3 _ h) ⟨rfl, rfl, (Nat.le_of_ble_eq_true rfl), (Nat.le_of_ble_eq_true rfl)⟩ ⟨Nat.zero_le _, Nat.zero_le _⟩ rfl rfl (Nat.le_of_ble_eq_true rfl) dX5_isPrint_21) (fun r3 h => ?_)
      refine lv_if_eq (tgt := 44) hx hb dX5_isPrint_24 (by decide) (fun ct => ?_) (fun ct => ?_)
      · have h := h.1 ct
        refine lv_iconst (v := 0) hx hb dX5_isPrint_44 (by decide) ?_
        exact rt_Sz hx hb hr hlk dX5_isPrint_45 rfl h
      · have h := h.2 ct
        refine lv_iload hx hb dX5_isPrint_27 (lv_at hl 4 rfl) ?_
        refine lv_i2l (v := x4.toInt64) hx hb dX5_isPrint_29 rfl ?_
        refine lv_lconst (v := 0) hx hb dX5_isPrint_30 (by decide) ?_
        refine ki_X5_70 hx hb hT hown dX5_isPrint_31 ?_
        refine cl_Si (rn_S (rest := []) hx hb hml hown hT hl.1 ck_X5_54 (c_X5_in l x4.toInt64 0 3 _ h) ⟨rfl, rfl, (Nat.le_of_ble_eq_true rfl), (Nat.le_of_ble_eq_true rfl)⟩ ⟨Nat.zero_le _, Nat.zero_le _⟩ rfl rfl (Nat.le_of_ble_eq_true rfl) dX5_isPrint_34) (fun r4 h => ?_)
        refine lv_if_eq (tgt := 44) hx hb dX5_isPrint_37 (by decide) (fun ct => ?_) (fun ct => ?_)
        · have h := h.1 ct
          refine lv_iconst (v := 0) hx hb dX5_isPrint_44 (by decide) ?_
          exact rt_Sz hx hb hr hlk dX5_isPrint_45 rfl h
        · have h := h.2 ct
          refine lv_iconst (v := 1) hx hb dX5_isPrint_40 (by decide) ?_
          refine lv_goto (tgt := 45) hx hb dX5_isPrint_41 (by decide) ?_
          exact rt_Sz hx hb hr hlk dX5_isPrint_45 rfl h
abbrev rm_X5_lands : Room := { frames := 0, cells := 0, slots := 0, locals := 0 }
set_option maxRecDepth 100000 in
set_option maxHeartbeats 4000000 in
theorem c_X5_lands (l : Launch) (x0 : Int32) (x1 : Int32) (post : Int32 → Prop) (h : w_X5_lands x0 x1 post) : Met l yX5_lands [.code yX5_lands cX5_lands 6 (some .int)] rm_X5_lands (va_Pc [.int x0, .int x1] TBok) (vp_Si post) 0 0 (fun _ => False) := by
  refine ax_S (by decide) (Nat.le_of_ble_eq_true rfl) ?_
  intro p e s m args below meth c hx hb hr hlk hml hown hT ls hl
  have hl : lv_has ls 6 [(0, .int x0), (1, .int x1)] := hl
  unfold w_X5_lands at h
  have HL13 : ∀  (z0 : Int32) (z1 : Int32) (K : Int32 → Int32 → Int32 → Prop), (∀  (y2 : Int32) (y3 : Int32) (y4 : Int32), K y2 y3 y4 → ∀ ls : Array Slot, lv_has ls 6 [(0, .int z0), (1, .int z1), (2, .int y2), (3, .int y3), (4, .int y4)] → W p l e rm_X5_lands s m args below meth c s.heap [] 0 0 (MQ below (vp_Si post) args s 0 0 (fun _ => False)) (F0 m 35 ls [])) → ∀ (n : Nat)  (y2 : Int32) (y3 : Int32) (y4 : Int32), itF (w_X5_lands_L13 z0 z1 post K) (fun _ _ _ => False) n y2 y3 y4 → ∀ ls : Array Slot, lv_has ls 6 [(0, .int z0), (1, .int z1), (2, .int y2), (3, .int y3), (4, .int y4)] → W p l e rm_X5_lands s m args below meth c s.heap [] 0 0 (MQ below (vp_Si post) args s 0 0 (fun _ => False)) (F0 m 13 ls []) := by
    intro z0 z1 K hKK n
    induction n with
    | zero =>
      intro y2 y3 y4 h
      exact absurd h id
    | succ n ih =>
      intro y2 y3 y4 h ls hl
      have h : w_X5_lands_L13 z0 z1 post K (itF (w_X5_lands_L13 z0 z1 post K) (fun _ _ _ => False) n) y2 y3 y4 := h
      generalize itF (w_X5_lands_L13 z0 z1 post K) (fun _ _ _ => False) n = rec at h ih
      unfold w_X5_lands_L13 at h
      refine lv_iload hx hb dX5_lands_13 (lv_at hl 4 rfl) ?_
      refine lv_iload_n hx hb dX5_lands_15 rfl (lv_at hl 1 rfl) ?_
      refine lv_icmp_ge (tgt := 35) hx hb dX5_lands_16 (by decide) (fun ct => ?_) (fun ct => ?_)
      · have h := h.1 ct
        exact hKK _ _ _ h ls (lv_sub hl [0, 1, 2, 3, 4] rfl)
      · have h := h.2 ct
        refine lv_iconst (v := 3) hx hb dX5_lands_19 (by decide) ?_
        refine lv_iload_n hx hb dX5_lands_20 rfl (lv_at hl 3 rfl) ?_
        refine lv_isub hx hb dX5_lands_21 ?_
        refine lv_topi (fun v3 ev3 => ?_)
        have h := h v3 ev3
        refine lv_istore (lv' := [(5, .int v3), (0, .int z0), (1, .int z1), (2, .int y2), (3, .int y3), (4, .int y4)]) hx hb dX5_lands_22 hl (by decide) rfl (fun ls hl => ?_)
        refine lv_iload_n hx hb dX5_lands_24 rfl (lv_at hl 3 rfl) ?_
        refine lv_istore_n (lv' := [(3, .int y2), (5, .int v3), (0, .int z0), (1, .int z1), (2, .int y2), (4, .int y4)]) hx hb dX5_lands_25 rfl hl (by decide) rfl (fun ls hl => ?_)
        refine lv_iload hx hb dX5_lands_26 (lv_at hl 1 rfl) ?_
        refine lv_istore_n (lv' := [(2, .int v3), (3, .int y2), (5, .int v3), (0, .int z0), (1, .int z1), (4, .int y4)]) hx hb dX5_lands_28 rfl hl (by decide) rfl (fun ls hl => ?_)
        refine lv_iinc (v := y4 + 1) (lv' := [(4, .int (y4 + 1)), (2, .int v3), (3, .int y2), (5, .int v3), (0, .int z0), (1, .int z1)]) hx hb dX5_lands_29 hl (k := 5) rfl rfl (by decide) rfl (fun ls hl => ?_)
        refine lv_goto (tgt := 13) hx hb dX5_lands_32 (by decide) ?_
        exact ih _ _ _ h ls (lv_sub hl [4, 5, 1, 2, 0] rfl)
  refine lv_iconst (v := 3) hx hb dX5_lands_0 (by decide) ?_
  refine lv_iload_n hx hb dX5_lands_1 rfl (lv_at hl 0 rfl) ?_
  refine lv_iconst (v := 4) hx hb dX5_lands_2 (by decide) ?_
  refine lv_irem hx hb dX5_lands_3 (by decide) ?_
  refine lv_isub hx hb dX5_lands_4 ?_
  refine lv_topi (fun v1 ev1 => ?_)
  have h := h v1 ev1
  refine lv_istore_n (lv' := [(2, .int v1), (0, .int x0), (1, .int x1)]) hx hb dX5_lands_5 rfl hl (by decide) rfl (fun ls hl => ?_)
  refine lv_iload_n hx hb dX5_lands_6 rfl (lv_at hl 1 rfl) ?_
  refine lv_iconst (v := 4) hx hb dX5_lands_7 (by decide) ?_
  refine lv_idiv hx hb dX5_lands_8 (by decide) ?_
  refine lv_topi (fun v2 ev2 => ?_)
  have h := h v2 ev2
  refine lv_istore_n (lv' := [(3, .int v2), (2, .int v1), (0, .int x0), (1, .int x1)]) hx hb dX5_lands_9 rfl hl (by decide) rfl (fun ls hl => ?_)
  refine lv_iconst (v := 0) hx hb dX5_lands_10 (by decide) ?_
  refine lv_istore (lv' := [(4, .int 0), (3, .int v2), (2, .int v1), (0, .int x0), (1, .int x1)]) hx hb dX5_lands_11 hl (by decide) rfl (fun ls hl => ?_)
  obtain ⟨n7, h⟩ := h
  refine HL13 _ _ _ (fun v4 v5 v6 h ls hl => ?_) n7 _ _ _ h  ls (lv_sub hl [3, 4, 2, 1, 0] rfl)
  refine lv_iconst (v := 4) hx hb dX5_lands_35 (by decide) ?_
  refine lv_iload_n hx hb dX5_lands_36 rfl (lv_at hl 3 rfl) ?_
  refine lv_imul hx hb dX5_lands_37 ?_
  refine lv_iload_n hx hb dX5_lands_38 rfl (lv_at hl 2 rfl) ?_
  refine lv_iadd hx hb dX5_lands_39 ?_
  exact rt_Si hx hb hr hlk dX5_lands_40 h
abbrev rm_X5_plain : Room := { frames := 0, cells := 0, slots := 0, locals := 0 }
set_option maxRecDepth 100000 in
set_option maxHeartbeats 4000000 in
theorem c_X5_plain (l : Launch) (x0 : Int32) (post : Int32 → Prop) (h : w_X5_plain x0 post) : Met l yX5_plain [.code yX5_plain cX5_plain 1 (some .int)] rm_X5_plain (va_Pc [.int x0] TBok) (vp_Si post) 0 0 (fun _ => False) := by
  refine ax_S (by decide) (Nat.le_of_ble_eq_true rfl) ?_
  intro p e s m args below meth c hx hb hr hlk hml hown hT ls hl
  have hl : lv_has ls 1 [(0, .int x0)] := hl
  unfold w_X5_plain at h
  refine lv_iload_n hx hb dX5_plain_0 rfl (lv_at hl 0 rfl) ?_
  refine lv_bipush (v := 9) hx hb dX5_plain_1 (by decide) ?_
  refine lv_icmp_le (tgt := 11) hx hb dX5_plain_3 (by decide) (fun ct => ?_) (fun ct => ?_)
  · have h := h.1 ct
    refine lv_iload_n hx hb dX5_plain_11 rfl (lv_at hl 0 rfl) ?_
    exact rt_Si hx hb hr hlk dX5_plain_12 h
  · have h := h.2 ct
    refine lv_bipush (v := 9) hx hb dX5_plain_6 (by decide) ?_
    refine lv_goto (tgt := 12) hx hb dX5_plain_8 (by decide) ?_
    exact rt_Si hx hb hr hlk dX5_plain_12 h
abbrev rm_X5_darkBy : Room := { frames := 1, cells := 0, slots := 0, locals := 20 }
set_option maxRecDepth 100000 in
set_option maxHeartbeats 4000000 in
theorem c_X5_darkBy (l : Launch) (x0 : Int32) (x1 : Int32) (post : Int32 → Prop) (h : w_X5_darkBy x0 x1 post) : Met l yX5_darkBy [.code yX5_darkBy cX5_darkBy 4 (some .int)] rm_X5_darkBy (va_Pc [.int x0, .int x1] TBok) (vp_Si post) 0 0 (fun _ => False) := by
  refine ax_S (by decide) (Nat.le_of_ble_eq_true rfl) ?_
  intro p e s m args below meth c hx hb hr hlk hml hown hT ls hl
  have hl : lv_has ls 4 [(0, .int x0), (1, .int x1)] := hl
  unfold w_X5_darkBy at h
  refine lv_iload_n hx hb dX5_darkBy_0 rfl (lv_at hl 1 rfl) ?_
  refine cl_Si (rn_S (rest := []) hx hb hml hown hT hl.1 ck_X5_79 (c_X5_plain l x1 _ h) ⟨rfl, rfl, (Nat.le_of_ble_eq_true rfl), (Nat.le_of_ble_eq_true rfl)⟩ ⟨Nat.zero_le _, Nat.zero_le _⟩ rfl rfl (Nat.le_of_ble_eq_true rfl) dX5_darkBy_1) (fun r1 h => ?_)
  refine lv_istore_n (lv' := [(2, .int r1), (0, .int x0), (1, .int x1)]) hx hb dX5_darkBy_4 rfl hl (by decide) rfl (fun ls hl => ?_)
  refine lv_iload_n hx hb dX5_darkBy_5 rfl (lv_at hl 1 rfl) ?_
  refine lv_if_ne (tgt := 11) hx hb dX5_darkBy_6 (by decide) (fun ct => ?_) (fun ct => ?_)
  · have h := h.1 ct
    refine lv_iload_n hx hb dX5_darkBy_11 rfl (lv_at hl 1 rfl) ?_
    refine lv_iconst (v := 2) hx hb dX5_darkBy_12 (by decide) ?_
    refine lv_icmp_eq (tgt := 21) hx hb dX5_darkBy_13 (by decide) (fun ct => ?_) (fun ct => ?_)
    · have h := h.1 ct
      refine lv_iload_n hx hb dX5_darkBy_21 rfl (lv_at hl 0 rfl) ?_
      refine lv_iconst (v := 1) hx hb dX5_darkBy_22 (by decide) ?_
      refine lv_iadd hx hb dX5_darkBy_23 ?_
      refine lv_iconst (v := 2) hx hb dX5_darkBy_24 (by decide) ?_
      refine lv_idiv hx hb dX5_darkBy_25 (by decide) ?_
      exact rt_Si hx hb hr hlk dX5_darkBy_26 h
    · have h := h.2 ct
      refine lv_iload_n hx hb dX5_darkBy_16 rfl (lv_at hl 1 rfl) ?_
      refine lv_iconst (v := 4) hx hb dX5_darkBy_17 (by decide) ?_
      refine lv_icmp_ne (tgt := 27) hx hb dX5_darkBy_18 (by decide) (fun ct => ?_) (fun ct => ?_)
      · have h := h.1 ct
        refine lv_iload_n hx hb dX5_darkBy_27 rfl (lv_at hl 0 rfl) ?_
        refine lv_if_ne (tgt := 35) hx hb dX5_darkBy_28 (by decide) (fun ct => ?_) (fun ct => ?_)
        · have h := h.1 ct
          refine lv_iload_n hx hb dX5_darkBy_35 rfl (lv_at hl 0 rfl) ?_
          refine lv_iconst (v := 2) hx hb dX5_darkBy_36 (by decide) ?_
          refine lv_iadd hx hb dX5_darkBy_37 ?_
          refine lv_bipush (v := 9) hx hb dX5_darkBy_38 (by decide) ?_
          refine lv_icmp_le (tgt := 48) hx hb dX5_darkBy_40 (by decide) (fun ct => ?_) (fun ct => ?_)
          · have h := h.1 ct
            refine lv_iload_n hx hb dX5_darkBy_48 rfl (lv_at hl 0 rfl) ?_
            refine lv_iconst (v := 2) hx hb dX5_darkBy_49 (by decide) ?_
            refine lv_iadd hx hb dX5_darkBy_50 ?_
            refine lv_topi (fun v2 ev2 => ?_)
            have h := h v2 ev2
            refine lv_istore_n (lv' := [(3, .int v2), (2, .int r1), (0, .int x0), (1, .int x1)]) hx hb dX5_darkBy_51 rfl hl (by decide) rfl (fun ls hl => ?_)
            refine lv_iload_n hx hb dX5_darkBy_52 rfl (lv_at hl 2 rfl) ?_
            refine lv_iconst (v := 5) hx hb dX5_darkBy_53 (by decide) ?_
            refine lv_icmp_eq (tgt := 61) hx hb dX5_darkBy_54 (by decide) (fun ct => ?_) (fun ct => ?_)
            · have h := h.1 ct
              refine lv_iload_n hx hb dX5_darkBy_61 rfl (lv_at hl 0 rfl) ?_
              refine lv_if_ne (tgt := 69) hx hb dX5_darkBy_62 (by decide) (fun ct => ?_) (fun ct => ?_)
              · have h := h.1 ct
                refine lv_iload_n hx hb dX5_darkBy_69 rfl (lv_at hl 0 rfl) ?_
                refine lv_iconst (v := 1) hx hb dX5_darkBy_70 (by decide) ?_
                refine lv_isub hx hb dX5_darkBy_71 ?_
                exact rt_Si hx hb hr hlk dX5_darkBy_72 h
              · have h := h.2 ct
                refine lv_iconst (v := 0) hx hb dX5_darkBy_65 (by decide) ?_
                refine lv_goto (tgt := 72) hx hb dX5_darkBy_66 (by decide) ?_
                exact rt_Si hx hb hr hlk dX5_darkBy_72 h
            · have h := h.2 ct
              refine lv_iload_n hx hb dX5_darkBy_57 rfl (lv_at hl 0 rfl) ?_
              refine lv_goto (tgt := 72) hx hb dX5_darkBy_58 (by decide) ?_
              exact rt_Si hx hb hr hlk dX5_darkBy_72 h
          · have h := h.2 ct
            refine lv_bipush (v := 9) hx hb dX5_darkBy_43 (by decide) ?_
            refine lv_goto (tgt := 51) hx hb dX5_darkBy_45 (by decide) ?_
            refine lv_istore_n (lv' := [(3, .int 9), (2, .int r1), (0, .int x0), (1, .int x1)]) hx hb dX5_darkBy_51 rfl hl (by decide) rfl (fun ls hl => ?_)
            refine lv_iload_n hx hb dX5_darkBy_52 rfl (lv_at hl 2 rfl) ?_
            refine lv_iconst (v := 5) hx hb dX5_darkBy_53 (by decide) ?_
            refine lv_icmp_eq (tgt := 61) hx hb dX5_darkBy_54 (by decide) (fun ct => ?_) (fun ct => ?_)
            · have h := h.1 ct
              refine lv_iload_n hx hb dX5_darkBy_61 rfl (lv_at hl 0 rfl) ?_
              refine lv_if_ne (tgt := 69) hx hb dX5_darkBy_62 (by decide) (fun _ => ?_) (fun ct => absurd ct (by decide))
              refine lv_iload_n hx hb dX5_darkBy_69 rfl (lv_at hl 0 rfl) ?_
              refine lv_iconst (v := 1) hx hb dX5_darkBy_70 (by decide) ?_
              refine lv_isub hx hb dX5_darkBy_71 ?_
              exact rt_Si hx hb hr hlk dX5_darkBy_72 h
            · have h := h.2 ct
              refine lv_iload_n hx hb dX5_darkBy_57 rfl (lv_at hl 0 rfl) ?_
              refine lv_goto (tgt := 72) hx hb dX5_darkBy_58 (by decide) ?_
              exact rt_Si hx hb hr hlk dX5_darkBy_72 h
        · have h := h.2 ct
          refine lv_iconst (v := 0) hx hb dX5_darkBy_31 (by decide) ?_
          refine lv_goto (tgt := 51) hx hb dX5_darkBy_32 (by decide) ?_
          refine lv_istore_n (lv' := [(3, .int 0), (2, .int r1), (0, .int x0), (1, .int x1)]) hx hb dX5_darkBy_51 rfl hl (by decide) rfl (fun ls hl => ?_)
          refine lv_iload_n hx hb dX5_darkBy_52 rfl (lv_at hl 2 rfl) ?_
          refine lv_iconst (v := 5) hx hb dX5_darkBy_53 (by decide) ?_
          refine lv_icmp_eq (tgt := 61) hx hb dX5_darkBy_54 (by decide) (fun ct => ?_) (fun ct => ?_)
          · have h := h.1 ct
            refine lv_iload_n hx hb dX5_darkBy_61 rfl (lv_at hl 0 rfl) ?_
            refine lv_if_ne (tgt := 69) hx hb dX5_darkBy_62 (by decide) (fun ct => absurd (by decide) ct) (fun _ => ?_)
            refine lv_iconst (v := 0) hx hb dX5_darkBy_65 (by decide) ?_
            refine lv_goto (tgt := 72) hx hb dX5_darkBy_66 (by decide) ?_
            exact rt_Si hx hb hr hlk dX5_darkBy_72 h
          · have h := h.2 ct
            refine lv_iload_n hx hb dX5_darkBy_57 rfl (lv_at hl 0 rfl) ?_
            refine lv_goto (tgt := 72) hx hb dX5_darkBy_58 (by decide) ?_
            exact rt_Si hx hb hr hlk dX5_darkBy_72 h
      · have h := h.2 ct
        refine lv_iload_n hx hb dX5_darkBy_21 rfl (lv_at hl 0 rfl) ?_
        refine lv_iconst (v := 1) hx hb dX5_darkBy_22 (by decide) ?_
        refine lv_iadd hx hb dX5_darkBy_23 ?_
        refine lv_iconst (v := 2) hx hb dX5_darkBy_24 (by decide) ?_
        refine lv_idiv hx hb dX5_darkBy_25 (by decide) ?_
        exact rt_Si hx hb hr hlk dX5_darkBy_26 h
  · have h := h.2 ct
    refine lv_iload_n hx hb dX5_darkBy_9 rfl (lv_at hl 0 rfl) ?_
    exact rt_Si hx hb hr hlk dX5_darkBy_10 h
abbrev rm_X5_takesBy : Room := { frames := 0, cells := 0, slots := 0, locals := 0 }
set_option maxRecDepth 100000 in
set_option maxHeartbeats 4000000 in
theorem c_X5_takesBy (l : Launch) (x0 : Int32) (x1 : Int32) (post : Int32 → Prop) (h : w_X5_takesBy x0 x1 post) : Met l yX5_takesBy [.code yX5_takesBy cX5_takesBy 3 (some .int)] rm_X5_takesBy (va_Pc [.int x0, .int x1] TBok) (vp_Si post) 0 0 (fun _ => False) := by
  refine ax_S (by decide) (Nat.le_of_ble_eq_true rfl) ?_
  intro p e s m args below meth c hx hb hr hlk hml hown hT ls hl
  have hl : lv_has ls 3 [(0, .int x0), (1, .int x1)] := hl
  unfold w_X5_takesBy at h
  refine lv_iload_n hx hb dX5_takesBy_0 rfl (lv_at hl 0 rfl) ?_
  refine lv_iconst (v := 1) hx hb dX5_takesBy_1 (by decide) ?_
  refine lv_icmp_eq (tgt := 15) hx hb dX5_takesBy_2 (by decide) (fun ct => ?_) (fun ct => ?_)
  · have h := h.1 ct
    refine lv_iconst (v := 2) hx hb dX5_takesBy_15 (by decide) ?_
    refine lv_goto (tgt := 20) hx hb dX5_takesBy_16 (by decide) ?_
    refine lv_istore_n (lv' := [(2, .int 2), (0, .int x0), (1, .int x1)]) hx hb dX5_takesBy_20 rfl hl (by decide) rfl (fun ls hl => ?_)
    refine lv_iload_n hx hb dX5_takesBy_21 rfl (lv_at hl 0 rfl) ?_
    refine lv_iload_n hx hb dX5_takesBy_22 rfl (lv_at hl 2 rfl) ?_
    refine lv_icmp_le (tgt := 30) hx hb dX5_takesBy_23 (by decide) (fun ct => ?_) (fun ct => ?_)
    · have h := h.1 ct
      refine lv_iload_n hx hb dX5_takesBy_30 rfl (lv_at hl 0 rfl) ?_
      exact rt_Si hx hb hr hlk dX5_takesBy_31 h
    · have h := h.2 ct
      refine lv_iload_n hx hb dX5_takesBy_26 rfl (lv_at hl 2 rfl) ?_
      refine lv_goto (tgt := 31) hx hb dX5_takesBy_27 (by decide) ?_
      exact rt_Si hx hb hr hlk dX5_takesBy_31 h
  · have h := h.2 ct
    refine lv_iload_n hx hb dX5_takesBy_5 rfl (lv_at hl 0 rfl) ?_
    refine lv_iconst (v := 3) hx hb dX5_takesBy_6 (by decide) ?_
    refine lv_icmp_eq (tgt := 15) hx hb dX5_takesBy_7 (by decide) (fun ct => ?_) (fun ct => ?_)
    · have h := h.1 ct
      refine lv_iconst (v := 2) hx hb dX5_takesBy_15 (by decide) ?_
      refine lv_goto (tgt := 20) hx hb dX5_takesBy_16 (by decide) ?_
      refine lv_istore_n (lv' := [(2, .int 2), (0, .int x0), (1, .int x1)]) hx hb dX5_takesBy_20 rfl hl (by decide) rfl (fun ls hl => ?_)
      refine lv_iload_n hx hb dX5_takesBy_21 rfl (lv_at hl 0 rfl) ?_
      refine lv_iload_n hx hb dX5_takesBy_22 rfl (lv_at hl 2 rfl) ?_
      refine lv_icmp_le (tgt := 30) hx hb dX5_takesBy_23 (by decide) (fun ct => ?_) (fun ct => ?_)
      · have h := h.1 ct
        refine lv_iload_n hx hb dX5_takesBy_30 rfl (lv_at hl 0 rfl) ?_
        exact rt_Si hx hb hr hlk dX5_takesBy_31 h
      · have h := h.2 ct
        refine lv_iload_n hx hb dX5_takesBy_26 rfl (lv_at hl 2 rfl) ?_
        refine lv_goto (tgt := 31) hx hb dX5_takesBy_27 (by decide) ?_
        exact rt_Si hx hb hr hlk dX5_takesBy_31 h
    · have h := h.2 ct
      refine lv_iload_n hx hb dX5_takesBy_10 rfl (lv_at hl 0 rfl) ?_
      refine lv_iconst (v := 5) hx hb dX5_takesBy_11 (by decide) ?_
      refine lv_icmp_ne (tgt := 19) hx hb dX5_takesBy_12 (by decide) (fun ct => ?_) (fun ct => ?_)
      · have h := h.1 ct
        refine lv_iconst (v := 1) hx hb dX5_takesBy_19 (by decide) ?_
        refine lv_istore_n (lv' := [(2, .int 1), (0, .int x0), (1, .int x1)]) hx hb dX5_takesBy_20 rfl hl (by decide) rfl (fun ls hl => ?_)
        refine lv_iload_n hx hb dX5_takesBy_21 rfl (lv_at hl 0 rfl) ?_
        refine lv_iload_n hx hb dX5_takesBy_22 rfl (lv_at hl 2 rfl) ?_
        refine lv_icmp_le (tgt := 30) hx hb dX5_takesBy_23 (by decide) (fun ct => ?_) (fun ct => ?_)
        · have h := h.1 ct
          refine lv_iload_n hx hb dX5_takesBy_30 rfl (lv_at hl 0 rfl) ?_
          exact rt_Si hx hb hr hlk dX5_takesBy_31 h
        · have h := h.2 ct
          refine lv_iload_n hx hb dX5_takesBy_26 rfl (lv_at hl 2 rfl) ?_
          refine lv_goto (tgt := 31) hx hb dX5_takesBy_27 (by decide) ?_
          exact rt_Si hx hb hr hlk dX5_takesBy_31 h
      · have h := h.2 ct
        refine lv_iconst (v := 2) hx hb dX5_takesBy_15 (by decide) ?_
        refine lv_goto (tgt := 20) hx hb dX5_takesBy_16 (by decide) ?_
        refine lv_istore_n (lv' := [(2, .int 2), (0, .int x0), (1, .int x1)]) hx hb dX5_takesBy_20 rfl hl (by decide) rfl (fun ls hl => ?_)
        refine lv_iload_n hx hb dX5_takesBy_21 rfl (lv_at hl 0 rfl) ?_
        refine lv_iload_n hx hb dX5_takesBy_22 rfl (lv_at hl 2 rfl) ?_
        refine lv_icmp_le (tgt := 30) hx hb dX5_takesBy_23 (by decide) (fun ct => ?_) (fun ct => ?_)
        · have h := h.1 ct
          refine lv_iload_n hx hb dX5_takesBy_30 rfl (lv_at hl 0 rfl) ?_
          exact rt_Si hx hb hr hlk dX5_takesBy_31 h
        · have h := h.2 ct
          refine lv_iload_n hx hb dX5_takesBy_26 rfl (lv_at hl 2 rfl) ?_
          refine lv_goto (tgt := 31) hx hb dX5_takesBy_27 (by decide) ?_
          exact rt_Si hx hb hr hlk dX5_takesBy_31 h
abbrev rm_X5_printsOf : Room := { frames := 2, cells := 0, slots := 0, locals := 43 }
set_option maxRecDepth 100000 in
set_option maxHeartbeats 4000000 in
theorem c_X5_printsOf (l : Launch) (x0 : Int32) (x1 : Int32) (x2 : Int32) (post : Int32 → Prop) (h : w_X5_printsOf x0 x1 x2 post) : Met l yX5_printsOf [.code yX5_printsOf cX5_printsOf 5 (some .int)] rm_X5_printsOf (va_Pc [.int x0, .int x1, .int x2] TBok) (vp_Si post) 0 0 (fun _ => False) := by
  refine ax_S (by decide) (Nat.le_of_ble_eq_true rfl) ?_
  intro p e s m args below meth c hx hb hr hlk hml hown hT ls hl
  have hl : lv_has ls 5 [(0, .int x0), (1, .int x1), (2, .int x2)] := hl
  unfold w_X5_printsOf at h
  have HL5 : ∀  (z0 : Int32) (z1 : Int32) (z2 : Int32) (K : Int32 → Int32 → Prop), (∀  (y3 : Int32) (y4 : Int32), K y3 y4 → ∀ ls : Array Slot, lv_has ls 5 [(0, .int z0), (1, .int z1), (2, .int z2), (3, .int y3), (4, .int y4)] → W p l e rm_X5_printsOf s m args below meth c s.heap [] 0 0 (MQ below (vp_Si post) args s 0 0 (fun _ => False)) (F0 m 32 ls [])) → ∀ (n : Nat)  (y3 : Int32) (y4 : Int32), itF (w_X5_printsOf_L5 z0 z1 z2 post K) (fun _ _ => False) n y3 y4 → ∀ ls : Array Slot, lv_has ls 5 [(0, .int z0), (1, .int z1), (2, .int z2), (3, .int y3), (4, .int y4)] → W p l e rm_X5_printsOf s m args below meth c s.heap [] 0 0 (MQ below (vp_Si post) args s 0 0 (fun _ => False)) (F0 m 5 ls []) := by
    intro z0 z1 z2 K hKK n
    induction n with
    | zero =>
      intro y3 y4 h
      exact absurd h id
    | succ n ih =>
      intro y3 y4 h ls hl
      have h : w_X5_printsOf_L5 z0 z1 z2 post K (itF (w_X5_printsOf_L5 z0 z1 z2 post K) (fun _ _ => False) n) y3 y4 := h
      generalize itF (w_X5_printsOf_L5 z0 z1 z2 post K) (fun _ _ => False) n = rec at h ih
      unfold w_X5_printsOf_L5 at h
      refine lv_iload_n hx hb dX5_printsOf_5 rfl (lv_at hl 3 rfl) ?_
      refine lv_if_le (tgt := 32) hx hb dX5_printsOf_6 (by decide) (fun ct => ?_) (fun ct => ?_)
      · have h := h.1 ct
        exact hKK _ _ h ls (lv_sub hl [0, 1, 2, 3, 4] rfl)
      · have h := h.2 ct
        refine lv_iload_n hx hb dX5_printsOf_9 rfl (lv_at hl 0 rfl) ?_
        refine lv_iload_n hx hb dX5_printsOf_10 rfl (lv_at hl 3 rfl) ?_
        refine cl_Si (rn_S (rest := []) hx hb hml hown hT hl.1 ck_X5_83 (c_X5_darkBy l z0 y3 _ h) ⟨rfl, rfl, (Nat.le_of_ble_eq_true rfl), (Nat.le_of_ble_eq_true rfl)⟩ ⟨Nat.zero_le _, Nat.zero_le _⟩ rfl rfl (Nat.le_of_ble_eq_true rfl) dX5_printsOf_11) (fun r1 h => ?_)
        refine lv_iload_n hx hb dX5_printsOf_14 rfl (lv_at hl 2 rfl) ?_
        refine lv_icmp_lt (tgt := 32) hx hb dX5_printsOf_15 (by decide) (fun ct => ?_) (fun ct => ?_)
        · have h := h.1 ct
          exact hKK _ _ h ls (lv_sub hl [0, 1, 2, 3, 4] rfl)
        · have h := h.2 ct
          refine lv_iinc (v := y4 + 1) (lv' := [(4, .int (y4 + 1)), (0, .int z0), (1, .int z1), (2, .int z2), (3, .int y3)]) hx hb dX5_printsOf_18 hl (k := 4) rfl rfl (by decide) rfl (fun ls hl => ?_)
          refine lv_iload_n hx hb dX5_printsOf_21 rfl (lv_at hl 4 rfl) ?_
          refine lv_iload_n hx hb dX5_printsOf_22 rfl (lv_at hl 1 rfl) ?_
          refine lv_iload_n hx hb dX5_printsOf_23 rfl (lv_at hl 4 rfl) ?_
          refine cl_Si (rn_S (rest := [.int y3]) hx hb hml hown hT hl.1 ck_X5_101 (c_X5_takesBy l z0 y3 _ h) ⟨rfl, rfl, (Nat.le_of_ble_eq_true rfl), (Nat.le_of_ble_eq_true rfl)⟩ ⟨Nat.zero_le _, Nat.zero_le _⟩ rfl rfl (Nat.le_of_ble_eq_true rfl) dX5_printsOf_24) (fun r2 h => ?_)
          refine lv_isub hx hb dX5_printsOf_27 ?_
          refine lv_topi (fun v3 ev3 => ?_)
          have h := h v3 ev3
          refine lv_istore_n (lv' := [(3, .int v3), (4, .int (y4 + 1)), (0, .int z0), (1, .int z1), (2, .int z2)]) hx hb dX5_printsOf_28 rfl hl (by decide) rfl (fun ls hl => ?_)
          refine lv_goto (tgt := 5) hx hb dX5_printsOf_29 (by decide) ?_
          exact ih _ _ h ls (lv_sub hl [2, 3, 4, 0, 1] rfl)
  refine lv_iload_n hx hb dX5_printsOf_0 rfl (lv_at hl 1 rfl) ?_
  refine lv_istore_n (lv' := [(3, .int x1), (0, .int x0), (1, .int x1), (2, .int x2)]) hx hb dX5_printsOf_1 rfl hl (by decide) rfl (fun ls hl => ?_)
  refine lv_iconst (v := 0) hx hb dX5_printsOf_2 (by decide) ?_
  refine lv_istore (lv' := [(4, .int 0), (3, .int x1), (0, .int x0), (1, .int x1), (2, .int x2)]) hx hb dX5_printsOf_3 hl (by decide) rfl (fun ls hl => ?_)
  obtain ⟨n6, h⟩ := h
  refine HL5 _ _ _ _ (fun v4 v5 h ls hl => ?_) n6 _ _ h  ls (lv_sub hl [2, 3, 4, 1, 0] rfl)
  refine lv_iload hx hb dX5_printsOf_32 (lv_at hl 4 rfl) ?_
  exact rt_Si hx hb hr hlk dX5_printsOf_34 h
abbrev rm_X5_leftOf : Room := { frames := 0, cells := 0, slots := 0, locals := 0 }
set_option maxRecDepth 100000 in
set_option maxHeartbeats 4000000 in
theorem c_X5_leftOf (l : Launch) (x0 : Int32) (x1 : Int32) (post : Int32 → Prop) (h : w_X5_leftOf x0 x1 post) : Met l yX5_leftOf [.code yX5_leftOf cX5_leftOf 3 (some .int)] rm_X5_leftOf (va_Pc [.int x0, .int x1] TBok) (vp_Si post) 0 0 (fun _ => False) := by
  refine ax_S (by decide) (Nat.le_of_ble_eq_true rfl) ?_
  intro p e s m args below meth c hx hb hr hlk hml hown hT ls hl
  have hl : lv_has ls 3 [(0, .int x0), (1, .int x1)] := hl
  unfold w_X5_leftOf at h
  refine lv_iload_n hx hb dX5_leftOf_0 rfl (lv_at hl 0 rfl) ?_
  refine lv_iload_n hx hb dX5_leftOf_1 rfl (lv_at hl 1 rfl) ?_
  refine lv_iadd hx hb dX5_leftOf_2 ?_
  refine lv_iconst (v := 4) hx hb dX5_leftOf_3 (by decide) ?_
  refine lv_iload_n hx hb dX5_leftOf_4 rfl (lv_at hl 1 rfl) ?_
  refine lv_iadd hx hb dX5_leftOf_5 ?_
  obtain ⟨hi, h⟩ := h
  refine lv_idiv hx hb dX5_leftOf_6 hi ?_
  refine lv_topi (fun v1 ev1 => ?_)
  have h := h v1 ev1
  refine lv_istore_n (lv' := [(2, .int v1), (0, .int x0), (1, .int x1)]) hx hb dX5_leftOf_7 rfl hl (by decide) rfl (fun ls hl => ?_)
  refine lv_iload_n hx hb dX5_leftOf_8 rfl (lv_at hl 1 rfl) ?_
  refine lv_iconst (v := 4) hx hb dX5_leftOf_9 (by decide) ?_
  refine lv_iload_n hx hb dX5_leftOf_10 rfl (lv_at hl 0 rfl) ?_
  refine lv_imul hx hb dX5_leftOf_11 ?_
  refine lv_isub hx hb dX5_leftOf_12 ?_
  refine lv_iload_n hx hb dX5_leftOf_13 rfl (lv_at hl 2 rfl) ?_
  refine lv_iload_n hx hb dX5_leftOf_14 rfl (lv_at hl 0 rfl) ?_
  refine lv_iconst (v := 1) hx hb dX5_leftOf_15 (by decide) ?_
  refine lv_isub hx hb dX5_leftOf_16 ?_
  refine lv_imul hx hb dX5_leftOf_17 ?_
  refine lv_isub hx hb dX5_leftOf_18 ?_
  exact rt_Si hx hb hr hlk dX5_leftOf_19 h
abbrev rm_X5_covers : Room := { frames := 1, cells := 0, slots := 0, locals := 25 }
set_option maxRecDepth 100000 in
set_option maxHeartbeats 4000000 in
theorem c_X5_covers (l : Launch) (x0 : Int32) (x1 : Int32) (x2 : Int32) (x3 : Int32) (post : Int32 → Prop) (h : w_X5_covers x0 x1 x2 x3 post) : Met l yX5_covers [.code yX5_covers cX5_covers 6 (some .boolean)] rm_X5_covers (va_Pc [.int x0, .int x1, .int x2, .int x3] TBok) (vp_Si post) 0 0 (fun _ => False) := by
  refine ax_S (by decide) (Nat.le_of_ble_eq_true rfl) ?_
  intro p e s m args below meth c hx hb hr hlk hml hown hT ls hl
  have hl : lv_has ls 6 [(0, .int x0), (1, .int x1), (2, .int x2), (3, .int x3)] := hl
  unfold w_X5_covers at h
  refine lv_iload_n hx hb dX5_covers_0 rfl (lv_at hl 3 rfl) ?_
  refine lv_bipush (v := 8) hx hb dX5_covers_1 (by decide) ?_
  refine lv_irem hx hb dX5_covers_3 (by decide) ?_
  refine lv_iload_n hx hb dX5_covers_4 rfl (lv_at hl 1 rfl) ?_
  refine lv_isub hx hb dX5_covers_5 ?_
  refine lv_topi (fun v1 ev1 => ?_)
  have h := h v1 ev1
  refine lv_istore (lv' := [(4, .int v1), (0, .int x0), (1, .int x1), (2, .int x2), (3, .int x3)]) hx hb dX5_covers_6 hl (by decide) rfl (fun ls hl => ?_)
  refine lv_iload_n hx hb dX5_covers_8 rfl (lv_at hl 4 rfl) ?_
  refine lv_bipush (v := 8) hx hb dX5_covers_9 (by decide) ?_
  refine lv_idiv hx hb dX5_covers_11 (by decide) ?_
  refine lv_iload_n hx hb dX5_covers_12 rfl (lv_at hl 3 rfl) ?_
  refine lv_isub hx hb dX5_covers_13 ?_
  refine lv_topi (fun v2 ev2 => ?_)
  have h := h v2 ev2
  refine lv_istore (lv' := [(5, .int v2), (4, .int v1), (0, .int x0), (1, .int x1), (2, .int x2), (3, .int x3)]) hx hb dX5_covers_14 hl (by decide) rfl (fun ls hl => ?_)
  refine lv_iload hx hb dX5_covers_16 (lv_at hl 1 rfl) ?_
  refine lv_i2l (v := v1.toInt64) hx hb dX5_covers_18 rfl ?_
  refine lv_lconst (v := 0) hx hb dX5_covers_19 (by decide) ?_
  refine ki_X5_70 hx hb hT hown dX5_covers_20 ?_
  refine cl_Si (rn_S (rest := []) hx hb hml hown hT hl.1 ck_X5_54 (c_X5_in l v1.toInt64 0 3 _ h) ⟨rfl, rfl, (Nat.le_of_ble_eq_true rfl), (Nat.le_of_ble_eq_true rfl)⟩ ⟨Nat.zero_le _, Nat.zero_le _⟩ rfl rfl (Nat.le_of_ble_eq_true rfl) dX5_covers_23) (fun r3 h => ?_)
  refine lv_if_eq (tgt := 60) hx hb dX5_covers_26 (by decide) (fun ct => ?_) (fun ct => ?_)
  · have h := h.1 ct
    refine lv_iconst (v := 0) hx hb dX5_covers_60 (by decide) ?_
    exact rt_Sz hx hb hr hlk dX5_covers_61 rfl h
  · have h := h.2 ct
    refine lv_iload hx hb dX5_covers_29 (lv_at hl 0 rfl) ?_
    refine lv_i2l (v := v2.toInt64) hx hb dX5_covers_31 rfl ?_
    refine lv_lconst (v := 0) hx hb dX5_covers_32 (by decide) ?_
    refine ki_X5_70 hx hb hT hown dX5_covers_33 ?_
    refine cl_Si (rn_S (rest := []) hx hb hml hown hT hl.1 ck_X5_54 (c_X5_in l v2.toInt64 0 3 _ h) ⟨rfl, rfl, (Nat.le_of_ble_eq_true rfl), (Nat.le_of_ble_eq_true rfl)⟩ ⟨Nat.zero_le _, Nat.zero_le _⟩ rfl rfl (Nat.le_of_ble_eq_true rfl) dX5_covers_36) (fun r4 h => ?_)
    refine lv_if_eq (tgt := 60) hx hb dX5_covers_39 (by decide) (fun ct => ?_) (fun ct => ?_)
    · have h := h.1 ct
      refine lv_iconst (v := 0) hx hb dX5_covers_60 (by decide) ?_
      exact rt_Sz hx hb hr hlk dX5_covers_61 rfl h
    · have h := h.2 ct
      refine lv_iload_n hx hb dX5_covers_42 rfl (lv_at hl 2 rfl) ?_
      refine lv_iconst (v := 4) hx hb dX5_covers_43 (by decide) ?_
      refine lv_iload hx hb dX5_covers_44 (lv_at hl 0 rfl) ?_
      refine lv_imul hx hb dX5_covers_46 ?_
      refine lv_iload hx hb dX5_covers_47 (lv_at hl 1 rfl) ?_
      refine lv_iadd hx hb dX5_covers_49 ?_
      refine cl_Si (rn_S (rest := []) hx hb hml hown hT hl.1 ck_X5_72 (c_X5_has l x0 ((4 * v2) + v1) _ h) ⟨rfl, rfl, (Nat.le_of_ble_eq_true rfl), (Nat.le_of_ble_eq_true rfl)⟩ ⟨Nat.zero_le _, Nat.zero_le _⟩ rfl rfl (Nat.le_of_ble_eq_true rfl) dX5_covers_50) (fun r5 h => ?_)
      refine lv_if_eq (tgt := 60) hx hb dX5_covers_53 (by decide) (fun ct => ?_) (fun ct => ?_)
      · have h := h.1 ct
        refine lv_iconst (v := 0) hx hb dX5_covers_60 (by decide) ?_
        exact rt_Sz hx hb hr hlk dX5_covers_61 rfl h
      · have h := h.2 ct
        refine lv_iconst (v := 1) hx hb dX5_covers_56 (by decide) ?_
        refine lv_goto (tgt := 61) hx hb dX5_covers_57 (by decide) ?_
        exact rt_Sz hx hb hr hlk dX5_covers_61 rfl h
abbrev rm_X5_numberOf : Room := { frames := 0, cells := 0, slots := 0, locals := 0 }
set_option maxRecDepth 100000 in
set_option maxHeartbeats 4000000 in
theorem c_X5_numberOf (l : Launch) (x0 : Int32) (x1 : Int32) (x2 : Int32) (post : Int32 → Prop) (h : w_X5_numberOf x0 x1 x2 post) : Met l yX5_numberOf [.code yX5_numberOf cX5_numberOf 3 (some .int)] rm_X5_numberOf (va_Pc [.int x0, .int x1, .int x2] TBok) (vp_Si post) 0 0 (fun _ => False) := by
  refine ax_S (by decide) (Nat.le_of_ble_eq_true rfl) ?_
  intro p e s m args below meth c hx hb hr hlk hml hown hT ls hl
  have hl : lv_has ls 3 [(0, .int x0), (1, .int x1), (2, .int x2)] := hl
  unfold w_X5_numberOf at h
  refine lv_bipush (v := 100) hx hb dX5_numberOf_0 (by decide) ?_
  refine lv_iload_n hx hb dX5_numberOf_2 rfl (lv_at hl 0 rfl) ?_
  refine lv_imul hx hb dX5_numberOf_3 ?_
  refine lv_bipush (v := 10) hx hb dX5_numberOf_4 (by decide) ?_
  refine lv_iload_n hx hb dX5_numberOf_6 rfl (lv_at hl 1 rfl) ?_
  refine lv_imul hx hb dX5_numberOf_7 ?_
  refine lv_iadd hx hb dX5_numberOf_8 ?_
  refine lv_iload_n hx hb dX5_numberOf_9 rfl (lv_at hl 2 rfl) ?_
  refine lv_iadd hx hb dX5_numberOf_10 ?_
  exact rt_Si hx hb hr hlk dX5_numberOf_11 h
abbrev rm_X5_numberBy : Room := { frames := 1, cells := 0, slots := 0, locals := 22 }
set_option maxRecDepth 100000 in
set_option maxHeartbeats 4000000 in
theorem c_X5_numberBy (l : Launch) (x0 : Int32) (post : Int32 → Prop) (h : w_X5_numberBy x0 post) : Met l yX5_numberBy [.code yX5_numberBy cX5_numberBy 1 (some .int)] rm_X5_numberBy (va_Pc [.int x0] TBok) (vp_Si post) 0 0 (fun _ => False) := by
  refine ax_S (by decide) (Nat.le_of_ble_eq_true rfl) ?_
  intro p e s m args below meth c hx hb hr hlk hml hown hT ls hl
  have hl : lv_has ls 1 [(0, .int x0)] := hl
  unfold w_X5_numberBy at h
  refine lv_iload_n hx hb dX5_numberBy_0 rfl (lv_at hl 0 rfl) ?_
  refine lv_bipush (v := 64) hx hb dX5_numberBy_1 (by decide) ?_
  refine lv_idiv hx hb dX5_numberBy_3 (by decide) ?_
  refine lv_iload_n hx hb dX5_numberBy_4 rfl (lv_at hl 0 rfl) ?_
  refine lv_bipush (v := 8) hx hb dX5_numberBy_5 (by decide) ?_
  refine lv_idiv hx hb dX5_numberBy_7 (by decide) ?_
  refine lv_bipush (v := 8) hx hb dX5_numberBy_8 (by decide) ?_
  refine lv_irem hx hb dX5_numberBy_10 (by decide) ?_
  refine lv_iload_n hx hb dX5_numberBy_11 rfl (lv_at hl 0 rfl) ?_
  refine lv_bipush (v := 8) hx hb dX5_numberBy_12 (by decide) ?_
  refine lv_irem hx hb dX5_numberBy_14 (by decide) ?_
  refine cl_Si (rn_S (rest := []) hx hb hml hown hT hl.1 ck_X5_204 (c_X5_numberOf l (x0 / 64) (jrem (x0 / 8) 8) (jrem x0 8) _ h) ⟨rfl, rfl, (Nat.le_of_ble_eq_true rfl), (Nat.le_of_ble_eq_true rfl)⟩ ⟨Nat.zero_le _, Nat.zero_le _⟩ rfl rfl (Nat.le_of_ble_eq_true rfl) dX5_numberBy_15) (fun r1 h => ?_)
  exact rt_Si hx hb hr hlk dX5_numberBy_18 h
abbrev rm_X5_shrunk : Room := { frames := 1, cells := 0, slots := 0, locals := 21 }
set_option maxRecDepth 100000 in
set_option maxHeartbeats 4000000 in
theorem c_X5_shrunk (l : Launch) (x0 : Int32) (post : Int32 → Prop) (h : w_X5_shrunk x0 post) : Met l yX5_shrunk [.code yX5_shrunk cX5_shrunk 7 (some .int)] rm_X5_shrunk (va_Pc [.int x0] TBok) (vp_Si post) 0 0 (fun _ => False) := by
  refine ax_S (by decide) (Nat.le_of_ble_eq_true rfl) ?_
  intro p e s m args below meth c hx hb hr hlk hml hown hT ls hl
  have hl : lv_has ls 7 [(0, .int x0)] := hl
  unfold w_X5_shrunk at h
  have HL4 : ∀  (z0 : Int32) (K : Int32 → Int32 → Prop), (∀  (y1 : Int32) (y2 : Int32), K y1 y2 → ∀ ls : Array Slot, lv_has ls 7 [(0, .int z0), (1, .int y1), (2, .int y2)] → W p l e rm_X5_shrunk s m args below meth c s.heap [] 0 0 (MQ below (vp_Si post) args s 0 0 (fun _ => False)) (F0 m 127 ls [])) → ∀ (n : Nat)  (y1 : Int32) (y2 : Int32), itF (w_X5_shrunk_L4 z0 post K) (fun _ _ => False) n y1 y2 → ∀ ls : Array Slot, lv_has ls 7 [(0, .int z0), (1, .int y1), (2, .int y2)] → W p l e rm_X5_shrunk s m args below meth c s.heap [] 0 0 (MQ below (vp_Si post) args s 0 0 (fun _ => False)) (F0 m 4 ls []) := by
    intro z0 K hKK n
    induction n with
    | zero =>
      intro y1 y2 h
      exact absurd h id
    | succ n ih =>
      intro y1 y2 h ls hl
      have h : w_X5_shrunk_L4 z0 post K (itF (w_X5_shrunk_L4 z0 post K) (fun _ _ => False) n) y1 y2 := h
      generalize itF (w_X5_shrunk_L4 z0 post K) (fun _ _ => False) n = rec at h ih
      unfold w_X5_shrunk_L4 at h
      refine lv_iload_n hx hb dX5_shrunk_4 rfl (lv_at hl 2 rfl) ?_
      refine lv_bipush (v := 16) hx hb dX5_shrunk_5 (by decide) ?_
      refine lv_icmp_ge (tgt := 127) hx hb dX5_shrunk_7 (by decide) (fun ct => ?_) (fun ct => ?_)
      · have h := h.1 ct
        exact hKK _ _ h ls (lv_sub hl [0, 1, 2] rfl)
      · have h := h.2 ct
        refine lv_iload_n hx hb dX5_shrunk_10 rfl (lv_at hl 2 rfl) ?_
        refine lv_iconst (v := 4) hx hb dX5_shrunk_11 (by decide) ?_
        refine lv_irem hx hb dX5_shrunk_12 (by decide) ?_
        refine lv_topi (fun v1 ev1 => ?_)
        have h := h v1 ev1
        refine lv_istore_n (lv' := [(3, .int v1), (0, .int z0), (1, .int y1), (2, .int y2)]) hx hb dX5_shrunk_13 rfl hl (by decide) rfl (fun ls hl => ?_)
        refine lv_iload_n hx hb dX5_shrunk_14 rfl (lv_at hl 3 rfl) ?_
        refine lv_iconst (v := 4) hx hb dX5_shrunk_15 (by decide) ?_
        refine lv_idiv hx hb dX5_shrunk_16 (by decide) ?_
        refine lv_topi (fun v2 ev2 => ?_)
        have h := h v2 ev2
        refine lv_istore (lv' := [(4, .int v2), (3, .int v1), (0, .int z0), (1, .int y1), (2, .int y2)]) hx hb dX5_shrunk_17 hl (by decide) rfl (fun ls hl => ?_)
        refine lv_iload_n hx hb dX5_shrunk_19 rfl (lv_at hl 1 rfl) ?_
        refine lv_if_le (tgt := 43) hx hb dX5_shrunk_20 (by decide) (fun ct => ?_) (fun ct => ?_)
        · have h := h.1 ct
          refine lv_iconst (v := 0) hx hb dX5_shrunk_43 (by decide) ?_
          refine lv_istore (lv' := [(5, .int 0), (4, .int v2), (3, .int v1), (0, .int z0), (1, .int y1), (2, .int y2)]) hx hb dX5_shrunk_44 hl (by decide) rfl (fun ls hl => ?_)
          refine lv_iload hx hb dX5_shrunk_46 (lv_at hl 0 rfl) ?_
          refine lv_if_eq (tgt := 103) hx hb dX5_shrunk_48 (by decide) (fun _ => ?_) (fun ct => absurd (by decide) ct)
          refine lv_iconst (v := 0) hx hb dX5_shrunk_103 (by decide) ?_
          refine lv_istore (lv' := [(6, .int 0), (5, .int 0), (4, .int v2), (3, .int v1), (0, .int z0), (1, .int y1), (2, .int y2)]) hx hb dX5_shrunk_104 hl (by decide) rfl (fun ls hl => ?_)
          refine lv_iload_n hx hb dX5_shrunk_106 rfl (lv_at hl 5 rfl) ?_
          refine lv_iload hx hb dX5_shrunk_107 (lv_at hl 0 rfl) ?_
          refine lv_if_eq (tgt := 118) hx hb dX5_shrunk_109 (by decide) (fun _ => ?_) (fun ct => absurd (by decide) ct)
          refine lv_iconst (v := 0) hx hb dX5_shrunk_118 (by decide) ?_
          refine lv_ior hx hb dX5_shrunk_119 ?_
          refine lv_topi (fun v3 ev3 => ?_)
          have h := h v3 ev3
          refine lv_istore_n (lv' := [(1, .int v3), (6, .int 0), (5, .int 0), (4, .int v2), (3, .int v1), (0, .int z0), (2, .int y2)]) hx hb dX5_shrunk_120 rfl hl (by decide) rfl (fun ls hl => ?_)
          refine lv_iinc (v := y2 + 1) (lv' := [(2, .int (y2 + 1)), (1, .int v3), (6, .int 0), (5, .int 0), (4, .int v2), (3, .int v1), (0, .int z0)]) hx hb dX5_shrunk_121 hl (k := 6) rfl rfl (by decide) rfl (fun ls hl => ?_)
          refine lv_goto (tgt := 4) hx hb dX5_shrunk_124 (by decide) ?_
          exact ih _ _ h ls (lv_sub hl [6, 1, 0] rfl)
        · have h := h.2 ct
          refine lv_iload_n hx hb dX5_shrunk_23 rfl (lv_at hl 1 rfl) ?_
          refine lv_iconst (v := 3) hx hb dX5_shrunk_24 (by decide) ?_
          refine lv_icmp_ge (tgt := 43) hx hb dX5_shrunk_25 (by decide) (fun ct => ?_) (fun ct => ?_)
          · have h := h.1 ct
            refine lv_iconst (v := 0) hx hb dX5_shrunk_43 (by decide) ?_
            refine lv_istore (lv' := [(5, .int 0), (4, .int v2), (3, .int v1), (0, .int z0), (1, .int y1), (2, .int y2)]) hx hb dX5_shrunk_44 hl (by decide) rfl (fun ls hl => ?_)
            refine lv_iload hx hb dX5_shrunk_46 (lv_at hl 0 rfl) ?_
            refine lv_if_eq (tgt := 103) hx hb dX5_shrunk_48 (by decide) (fun _ => ?_) (fun ct => absurd (by decide) ct)
            refine lv_iconst (v := 0) hx hb dX5_shrunk_103 (by decide) ?_
            refine lv_istore (lv' := [(6, .int 0), (5, .int 0), (4, .int v2), (3, .int v1), (0, .int z0), (1, .int y1), (2, .int y2)]) hx hb dX5_shrunk_104 hl (by decide) rfl (fun ls hl => ?_)
            refine lv_iload_n hx hb dX5_shrunk_106 rfl (lv_at hl 5 rfl) ?_
            refine lv_iload hx hb dX5_shrunk_107 (lv_at hl 0 rfl) ?_
            refine lv_if_eq (tgt := 118) hx hb dX5_shrunk_109 (by decide) (fun _ => ?_) (fun ct => absurd (by decide) ct)
            refine lv_iconst (v := 0) hx hb dX5_shrunk_118 (by decide) ?_
            refine lv_ior hx hb dX5_shrunk_119 ?_
            refine lv_topi (fun v4 ev4 => ?_)
            have h := h v4 ev4
            refine lv_istore_n (lv' := [(1, .int v4), (6, .int 0), (5, .int 0), (4, .int v2), (3, .int v1), (0, .int z0), (2, .int y2)]) hx hb dX5_shrunk_120 rfl hl (by decide) rfl (fun ls hl => ?_)
            refine lv_iinc (v := y2 + 1) (lv' := [(2, .int (y2 + 1)), (1, .int v4), (6, .int 0), (5, .int 0), (4, .int v2), (3, .int v1), (0, .int z0)]) hx hb dX5_shrunk_121 hl (k := 6) rfl rfl (by decide) rfl (fun ls hl => ?_)
            refine lv_goto (tgt := 4) hx hb dX5_shrunk_124 (by decide) ?_
            exact ih _ _ h ls (lv_sub hl [6, 1, 0] rfl)
          · have h := h.2 ct
            refine lv_iload hx hb dX5_shrunk_28 (lv_at hl 0 rfl) ?_
            refine lv_if_le (tgt := 43) hx hb dX5_shrunk_30 (by decide) (fun ct => ?_) (fun ct => ?_)
            · have h := h.1 ct
              refine lv_iconst (v := 0) hx hb dX5_shrunk_43 (by decide) ?_
              refine lv_istore (lv' := [(5, .int 0), (4, .int v2), (3, .int v1), (0, .int z0), (1, .int y1), (2, .int y2)]) hx hb dX5_shrunk_44 hl (by decide) rfl (fun ls hl => ?_)
              refine lv_iload hx hb dX5_shrunk_46 (lv_at hl 0 rfl) ?_
              refine lv_if_eq (tgt := 103) hx hb dX5_shrunk_48 (by decide) (fun _ => ?_) (fun ct => absurd (by decide) ct)
              refine lv_iconst (v := 0) hx hb dX5_shrunk_103 (by decide) ?_
              refine lv_istore (lv' := [(6, .int 0), (5, .int 0), (4, .int v2), (3, .int v1), (0, .int z0), (1, .int y1), (2, .int y2)]) hx hb dX5_shrunk_104 hl (by decide) rfl (fun ls hl => ?_)
              refine lv_iload_n hx hb dX5_shrunk_106 rfl (lv_at hl 5 rfl) ?_
              refine lv_iload hx hb dX5_shrunk_107 (lv_at hl 0 rfl) ?_
              refine lv_if_eq (tgt := 118) hx hb dX5_shrunk_109 (by decide) (fun _ => ?_) (fun ct => absurd (by decide) ct)
              refine lv_iconst (v := 0) hx hb dX5_shrunk_118 (by decide) ?_
              refine lv_ior hx hb dX5_shrunk_119 ?_
              refine lv_topi (fun v5 ev5 => ?_)
              have h := h v5 ev5
              refine lv_istore_n (lv' := [(1, .int v5), (6, .int 0), (5, .int 0), (4, .int v2), (3, .int v1), (0, .int z0), (2, .int y2)]) hx hb dX5_shrunk_120 rfl hl (by decide) rfl (fun ls hl => ?_)
              refine lv_iinc (v := y2 + 1) (lv' := [(2, .int (y2 + 1)), (1, .int v5), (6, .int 0), (5, .int 0), (4, .int v2), (3, .int v1), (0, .int z0)]) hx hb dX5_shrunk_121 hl (k := 6) rfl rfl (by decide) rfl (fun ls hl => ?_)
              refine lv_goto (tgt := 4) hx hb dX5_shrunk_124 (by decide) ?_
              exact ih _ _ h ls (lv_sub hl [6, 1, 0] rfl)
            · have h := h.2 ct
              refine lv_iload hx hb dX5_shrunk_33 (lv_at hl 0 rfl) ?_
              refine lv_iconst (v := 3) hx hb dX5_shrunk_35 (by decide) ?_
              refine lv_icmp_ge (tgt := 43) hx hb dX5_shrunk_36 (by decide) (fun ct => ?_) (fun ct => ?_)
              · have h := h.1 ct
                refine lv_iconst (v := 0) hx hb dX5_shrunk_43 (by decide) ?_
                refine lv_istore (lv' := [(5, .int 0), (4, .int v2), (3, .int v1), (0, .int z0), (1, .int y1), (2, .int y2)]) hx hb dX5_shrunk_44 hl (by decide) rfl (fun ls hl => ?_)
                refine lv_iload hx hb dX5_shrunk_46 (lv_at hl 0 rfl) ?_
                refine lv_if_eq (tgt := 103) hx hb dX5_shrunk_48 (by decide) (fun _ => ?_) (fun ct => absurd (by decide) ct)
                refine lv_iconst (v := 0) hx hb dX5_shrunk_103 (by decide) ?_
                refine lv_istore (lv' := [(6, .int 0), (5, .int 0), (4, .int v2), (3, .int v1), (0, .int z0), (1, .int y1), (2, .int y2)]) hx hb dX5_shrunk_104 hl (by decide) rfl (fun ls hl => ?_)
                refine lv_iload_n hx hb dX5_shrunk_106 rfl (lv_at hl 5 rfl) ?_
                refine lv_iload hx hb dX5_shrunk_107 (lv_at hl 0 rfl) ?_
                refine lv_if_eq (tgt := 118) hx hb dX5_shrunk_109 (by decide) (fun _ => ?_) (fun ct => absurd (by decide) ct)
                refine lv_iconst (v := 0) hx hb dX5_shrunk_118 (by decide) ?_
                refine lv_ior hx hb dX5_shrunk_119 ?_
                refine lv_topi (fun v6 ev6 => ?_)
                have h := h v6 ev6
                refine lv_istore_n (lv' := [(1, .int v6), (6, .int 0), (5, .int 0), (4, .int v2), (3, .int v1), (0, .int z0), (2, .int y2)]) hx hb dX5_shrunk_120 rfl hl (by decide) rfl (fun ls hl => ?_)
                refine lv_iinc (v := y2 + 1) (lv' := [(2, .int (y2 + 1)), (1, .int v6), (6, .int 0), (5, .int 0), (4, .int v2), (3, .int v1), (0, .int z0)]) hx hb dX5_shrunk_121 hl (k := 6) rfl rfl (by decide) rfl (fun ls hl => ?_)
                refine lv_goto (tgt := 4) hx hb dX5_shrunk_124 (by decide) ?_
                exact ih _ _ h ls (lv_sub hl [6, 1, 0] rfl)
              · have h := h.2 ct
                refine lv_iconst (v := 1) hx hb dX5_shrunk_39 (by decide) ?_
                refine lv_goto (tgt := 44) hx hb dX5_shrunk_40 (by decide) ?_
                refine lv_istore (lv' := [(5, .int 1), (4, .int v2), (3, .int v1), (0, .int z0), (1, .int y1), (2, .int y2)]) hx hb dX5_shrunk_44 hl (by decide) rfl (fun ls hl => ?_)
                refine lv_iload hx hb dX5_shrunk_46 (lv_at hl 0 rfl) ?_
                refine lv_if_eq (tgt := 103) hx hb dX5_shrunk_48 (by decide) (fun ct => absurd ct (by decide)) (fun _ => ?_)
                refine lv_iload_n hx hb dX5_shrunk_51 rfl (lv_at hl 3 rfl) ?_
                refine lv_iload_n hx hb dX5_shrunk_52 rfl (lv_at hl 5 rfl) ?_
                refine cl_Si (rn_S (rest := []) hx hb hml hown hT hl.1 ck_X5_72 (c_X5_has l z0 y2 _ h) ⟨rfl, rfl, (Nat.le_of_ble_eq_true rfl), (Nat.le_of_ble_eq_true rfl)⟩ ⟨Nat.zero_le _, Nat.zero_le _⟩ rfl rfl (Nat.le_of_ble_eq_true rfl) dX5_shrunk_53) (fun r7 h => ?_)
                refine lv_if_eq (tgt := 103) hx hb dX5_shrunk_56 (by decide) (fun ct => ?_) (fun ct => ?_)
                · have h := h.1 ct
                  refine lv_iconst (v := 0) hx hb dX5_shrunk_103 (by decide) ?_
                  refine lv_istore (lv' := [(6, .int 0), (5, .int 1), (4, .int v2), (3, .int v1), (0, .int z0), (1, .int y1), (2, .int y2)]) hx hb dX5_shrunk_104 hl (by decide) rfl (fun ls hl => ?_)
                  refine lv_iload_n hx hb dX5_shrunk_106 rfl (lv_at hl 5 rfl) ?_
                  refine lv_iload hx hb dX5_shrunk_107 (lv_at hl 0 rfl) ?_
                  refine lv_if_eq (tgt := 118) hx hb dX5_shrunk_109 (by decide) (fun _ => ?_) (fun ct => absurd (by decide) ct)
                  refine lv_iconst (v := 0) hx hb dX5_shrunk_118 (by decide) ?_
                  refine lv_ior hx hb dX5_shrunk_119 ?_
                  refine lv_topi (fun v8 ev8 => ?_)
                  have h := h v8 ev8
                  refine lv_istore_n (lv' := [(1, .int v8), (6, .int 0), (5, .int 1), (4, .int v2), (3, .int v1), (0, .int z0), (2, .int y2)]) hx hb dX5_shrunk_120 rfl hl (by decide) rfl (fun ls hl => ?_)
                  refine lv_iinc (v := y2 + 1) (lv' := [(2, .int (y2 + 1)), (1, .int v8), (6, .int 0), (5, .int 1), (4, .int v2), (3, .int v1), (0, .int z0)]) hx hb dX5_shrunk_121 hl (k := 6) rfl rfl (by decide) rfl (fun ls hl => ?_)
                  refine lv_goto (tgt := 4) hx hb dX5_shrunk_124 (by decide) ?_
                  exact ih _ _ h ls (lv_sub hl [6, 1, 0] rfl)
                · have h := h.2 ct
                  refine lv_iload_n hx hb dX5_shrunk_59 rfl (lv_at hl 3 rfl) ?_
                  refine lv_iload_n hx hb dX5_shrunk_60 rfl (lv_at hl 5 rfl) ?_
                  refine lv_iconst (v := 1) hx hb dX5_shrunk_61 (by decide) ?_
                  refine lv_isub hx hb dX5_shrunk_62 ?_
                  refine cl_Si (rn_S (rest := []) hx hb hml hown hT hl.1 ck_X5_72 (c_X5_has l z0 (y2 - 1) _ h) ⟨rfl, rfl, (Nat.le_of_ble_eq_true rfl), (Nat.le_of_ble_eq_true rfl)⟩ ⟨Nat.zero_le _, Nat.zero_le _⟩ rfl rfl (Nat.le_of_ble_eq_true rfl) dX5_shrunk_63) (fun r9 h => ?_)
                  refine lv_if_eq (tgt := 103) hx hb dX5_shrunk_66 (by decide) (fun ct => ?_) (fun ct => ?_)
                  · have h := h.1 ct
                    refine lv_iconst (v := 0) hx hb dX5_shrunk_103 (by decide) ?_
                    refine lv_istore (lv' := [(6, .int 0), (5, .int 1), (4, .int v2), (3, .int v1), (0, .int z0), (1, .int y1), (2, .int y2)]) hx hb dX5_shrunk_104 hl (by decide) rfl (fun ls hl => ?_)
                    refine lv_iload_n hx hb dX5_shrunk_106 rfl (lv_at hl 5 rfl) ?_
                    refine lv_iload hx hb dX5_shrunk_107 (lv_at hl 0 rfl) ?_
                    refine lv_if_eq (tgt := 118) hx hb dX5_shrunk_109 (by decide) (fun _ => ?_) (fun ct => absurd (by decide) ct)
                    refine lv_iconst (v := 0) hx hb dX5_shrunk_118 (by decide) ?_
                    refine lv_ior hx hb dX5_shrunk_119 ?_
                    refine lv_topi (fun v10 ev10 => ?_)
                    have h := h v10 ev10
                    refine lv_istore_n (lv' := [(1, .int v10), (6, .int 0), (5, .int 1), (4, .int v2), (3, .int v1), (0, .int z0), (2, .int y2)]) hx hb dX5_shrunk_120 rfl hl (by decide) rfl (fun ls hl => ?_)
                    refine lv_iinc (v := y2 + 1) (lv' := [(2, .int (y2 + 1)), (1, .int v10), (6, .int 0), (5, .int 1), (4, .int v2), (3, .int v1), (0, .int z0)]) hx hb dX5_shrunk_121 hl (k := 6) rfl rfl (by decide) rfl (fun ls hl => ?_)
                    refine lv_goto (tgt := 4) hx hb dX5_shrunk_124 (by decide) ?_
                    exact ih _ _ h ls (lv_sub hl [6, 1, 0] rfl)
                  · have h := h.2 ct
                    refine lv_iload_n hx hb dX5_shrunk_69 rfl (lv_at hl 3 rfl) ?_
                    refine lv_iload_n hx hb dX5_shrunk_70 rfl (lv_at hl 5 rfl) ?_
                    refine lv_iconst (v := 1) hx hb dX5_shrunk_71 (by decide) ?_
                    refine lv_iadd hx hb dX5_shrunk_72 ?_
                    refine cl_Si (rn_S (rest := []) hx hb hml hown hT hl.1 ck_X5_72 (c_X5_has l z0 (y2 + 1) _ h) ⟨rfl, rfl, (Nat.le_of_ble_eq_true rfl), (Nat.le_of_ble_eq_true rfl)⟩ ⟨Nat.zero_le _, Nat.zero_le _⟩ rfl rfl (Nat.le_of_ble_eq_true rfl) dX5_shrunk_73) (fun r11 h => ?_)
                    refine lv_if_eq (tgt := 103) hx hb dX5_shrunk_76 (by decide) (fun ct => ?_) (fun ct => ?_)
                    · have h := h.1 ct
                      refine lv_iconst (v := 0) hx hb dX5_shrunk_103 (by decide) ?_
                      refine lv_istore (lv' := [(6, .int 0), (5, .int 1), (4, .int v2), (3, .int v1), (0, .int z0), (1, .int y1), (2, .int y2)]) hx hb dX5_shrunk_104 hl (by decide) rfl (fun ls hl => ?_)
                      refine lv_iload_n hx hb dX5_shrunk_106 rfl (lv_at hl 5 rfl) ?_
                      refine lv_iload hx hb dX5_shrunk_107 (lv_at hl 0 rfl) ?_
                      refine lv_if_eq (tgt := 118) hx hb dX5_shrunk_109 (by decide) (fun _ => ?_) (fun ct => absurd (by decide) ct)
                      refine lv_iconst (v := 0) hx hb dX5_shrunk_118 (by decide) ?_
                      refine lv_ior hx hb dX5_shrunk_119 ?_
                      refine lv_topi (fun v12 ev12 => ?_)
                      have h := h v12 ev12
                      refine lv_istore_n (lv' := [(1, .int v12), (6, .int 0), (5, .int 1), (4, .int v2), (3, .int v1), (0, .int z0), (2, .int y2)]) hx hb dX5_shrunk_120 rfl hl (by decide) rfl (fun ls hl => ?_)
                      refine lv_iinc (v := y2 + 1) (lv' := [(2, .int (y2 + 1)), (1, .int v12), (6, .int 0), (5, .int 1), (4, .int v2), (3, .int v1), (0, .int z0)]) hx hb dX5_shrunk_121 hl (k := 6) rfl rfl (by decide) rfl (fun ls hl => ?_)
                      refine lv_goto (tgt := 4) hx hb dX5_shrunk_124 (by decide) ?_
                      exact ih _ _ h ls (lv_sub hl [6, 1, 0] rfl)
                    · have h := h.2 ct
                      refine lv_iload_n hx hb dX5_shrunk_79 rfl (lv_at hl 3 rfl) ?_
                      refine lv_iload_n hx hb dX5_shrunk_80 rfl (lv_at hl 5 rfl) ?_
                      refine lv_iconst (v := 4) hx hb dX5_shrunk_81 (by decide) ?_
                      refine lv_isub hx hb dX5_shrunk_82 ?_
                      refine cl_Si (rn_S (rest := []) hx hb hml hown hT hl.1 ck_X5_72 (c_X5_has l z0 (y2 - 4) _ h) ⟨rfl, rfl, (Nat.le_of_ble_eq_true rfl), (Nat.le_of_ble_eq_true rfl)⟩ ⟨Nat.zero_le _, Nat.zero_le _⟩ rfl rfl (Nat.le_of_ble_eq_true rfl) dX5_shrunk_83) (fun r13 h => ?_)
                      refine lv_if_eq (tgt := 103) hx hb dX5_shrunk_86 (by decide) (fun ct => ?_) (fun ct => ?_)
                      · have h := h.1 ct
                        refine lv_iconst (v := 0) hx hb dX5_shrunk_103 (by decide) ?_
                        refine lv_istore (lv' := [(6, .int 0), (5, .int 1), (4, .int v2), (3, .int v1), (0, .int z0), (1, .int y1), (2, .int y2)]) hx hb dX5_shrunk_104 hl (by decide) rfl (fun ls hl => ?_)
                        refine lv_iload_n hx hb dX5_shrunk_106 rfl (lv_at hl 5 rfl) ?_
                        refine lv_iload hx hb dX5_shrunk_107 (lv_at hl 0 rfl) ?_
                        refine lv_if_eq (tgt := 118) hx hb dX5_shrunk_109 (by decide) (fun _ => ?_) (fun ct => absurd (by decide) ct)
                        refine lv_iconst (v := 0) hx hb dX5_shrunk_118 (by decide) ?_
                        refine lv_ior hx hb dX5_shrunk_119 ?_
                        refine lv_topi (fun v14 ev14 => ?_)
                        have h := h v14 ev14
                        refine lv_istore_n (lv' := [(1, .int v14), (6, .int 0), (5, .int 1), (4, .int v2), (3, .int v1), (0, .int z0), (2, .int y2)]) hx hb dX5_shrunk_120 rfl hl (by decide) rfl (fun ls hl => ?_)
                        refine lv_iinc (v := y2 + 1) (lv' := [(2, .int (y2 + 1)), (1, .int v14), (6, .int 0), (5, .int 1), (4, .int v2), (3, .int v1), (0, .int z0)]) hx hb dX5_shrunk_121 hl (k := 6) rfl rfl (by decide) rfl (fun ls hl => ?_)
                        refine lv_goto (tgt := 4) hx hb dX5_shrunk_124 (by decide) ?_
                        exact ih _ _ h ls (lv_sub hl [6, 1, 0] rfl)
                      · have h := h.2 ct
                        refine lv_iload_n hx hb dX5_shrunk_89 rfl (lv_at hl 3 rfl) ?_
                        refine lv_iload_n hx hb dX5_shrunk_90 rfl (lv_at hl 5 rfl) ?_
                        refine lv_iconst (v := 4) hx hb dX5_shrunk_91 (by decide) ?_
                        refine lv_iadd hx hb dX5_shrunk_92 ?_
                        refine cl_Si (rn_S (rest := []) hx hb hml hown hT hl.1 ck_X5_72 (c_X5_has l z0 (y2 + 4) _ h) ⟨rfl, rfl, (Nat.le_of_ble_eq_true rfl), (Nat.le_of_ble_eq_true rfl)⟩ ⟨Nat.zero_le _, Nat.zero_le _⟩ rfl rfl (Nat.le_of_ble_eq_true rfl) dX5_shrunk_93) (fun r15 h => ?_)
                        refine lv_if_eq (tgt := 103) hx hb dX5_shrunk_96 (by decide) (fun ct => ?_) (fun ct => ?_)
                        · have h := h.1 ct
                          refine lv_iconst (v := 0) hx hb dX5_shrunk_103 (by decide) ?_
                          refine lv_istore (lv' := [(6, .int 0), (5, .int 1), (4, .int v2), (3, .int v1), (0, .int z0), (1, .int y1), (2, .int y2)]) hx hb dX5_shrunk_104 hl (by decide) rfl (fun ls hl => ?_)
                          refine lv_iload_n hx hb dX5_shrunk_106 rfl (lv_at hl 5 rfl) ?_
                          refine lv_iload hx hb dX5_shrunk_107 (lv_at hl 0 rfl) ?_
                          refine lv_if_eq (tgt := 118) hx hb dX5_shrunk_109 (by decide) (fun _ => ?_) (fun ct => absurd (by decide) ct)
                          refine lv_iconst (v := 0) hx hb dX5_shrunk_118 (by decide) ?_
                          refine lv_ior hx hb dX5_shrunk_119 ?_
                          refine lv_topi (fun v16 ev16 => ?_)
                          have h := h v16 ev16
                          refine lv_istore_n (lv' := [(1, .int v16), (6, .int 0), (5, .int 1), (4, .int v2), (3, .int v1), (0, .int z0), (2, .int y2)]) hx hb dX5_shrunk_120 rfl hl (by decide) rfl (fun ls hl => ?_)
                          refine lv_iinc (v := y2 + 1) (lv' := [(2, .int (y2 + 1)), (1, .int v16), (6, .int 0), (5, .int 1), (4, .int v2), (3, .int v1), (0, .int z0)]) hx hb dX5_shrunk_121 hl (k := 6) rfl rfl (by decide) rfl (fun ls hl => ?_)
                          refine lv_goto (tgt := 4) hx hb dX5_shrunk_124 (by decide) ?_
                          exact ih _ _ h ls (lv_sub hl [6, 1, 0] rfl)
                        · have h := h.2 ct
                          refine lv_iconst (v := 1) hx hb dX5_shrunk_99 (by decide) ?_
                          refine lv_goto (tgt := 104) hx hb dX5_shrunk_100 (by decide) ?_
                          refine lv_istore (lv' := [(6, .int 1), (5, .int 1), (4, .int v2), (3, .int v1), (0, .int z0), (1, .int y1), (2, .int y2)]) hx hb dX5_shrunk_104 hl (by decide) rfl (fun ls hl => ?_)
                          refine lv_iload_n hx hb dX5_shrunk_106 rfl (lv_at hl 5 rfl) ?_
                          refine lv_iload hx hb dX5_shrunk_107 (lv_at hl 0 rfl) ?_
                          refine lv_if_eq (tgt := 118) hx hb dX5_shrunk_109 (by decide) (fun ct => absurd ct (by decide)) (fun _ => ?_)
                          refine lv_iconst (v := 1) hx hb dX5_shrunk_112 (by decide) ?_
                          refine lv_iload_n hx hb dX5_shrunk_113 rfl (lv_at hl 6 rfl) ?_
                          refine lv_ishl hx hb dX5_shrunk_114 ?_
                          refine lv_goto (tgt := 119) hx hb dX5_shrunk_115 (by decide) ?_
                          refine lv_ior hx hb dX5_shrunk_119 ?_
                          refine lv_topi (fun v17 ev17 => ?_)
                          have h := h v17 ev17
                          refine lv_istore_n (lv' := [(1, .int v17), (6, .int 1), (5, .int 1), (4, .int v2), (3, .int v1), (0, .int z0), (2, .int y2)]) hx hb dX5_shrunk_120 rfl hl (by decide) rfl (fun ls hl => ?_)
                          refine lv_iinc (v := y2 + 1) (lv' := [(2, .int (y2 + 1)), (1, .int v17), (6, .int 1), (5, .int 1), (4, .int v2), (3, .int v1), (0, .int z0)]) hx hb dX5_shrunk_121 hl (k := 6) rfl rfl (by decide) rfl (fun ls hl => ?_)
                          refine lv_goto (tgt := 4) hx hb dX5_shrunk_124 (by decide) ?_
                          exact ih _ _ h ls (lv_sub hl [6, 1, 0] rfl)
  refine lv_iconst (v := 0) hx hb dX5_shrunk_0 (by decide) ?_
  refine lv_istore_n (lv' := [(1, .int 0), (0, .int x0)]) hx hb dX5_shrunk_1 rfl hl (by decide) rfl (fun ls hl => ?_)
  refine lv_iconst (v := 0) hx hb dX5_shrunk_2 (by decide) ?_
  refine lv_istore_n (lv' := [(2, .int 0), (1, .int 0), (0, .int x0)]) hx hb dX5_shrunk_3 rfl hl (by decide) rfl (fun ls hl => ?_)
  obtain ⟨n20, h⟩ := h
  refine HL4 _ _ (fun v18 v19 h ls hl => ?_) n20 _ _ h  ls (lv_sub hl [2, 1, 0] rfl)
  refine lv_iload_n hx hb dX5_shrunk_127 rfl (lv_at hl 1 rfl) ?_
  exact rt_Si hx hb hr hlk dX5_shrunk_128 h
