theorem tb_any {w : Cond} {s : State} {a a' : Array Value} (hk : okw w = true) (h : w.before a s = true) : w.before a' s = true := by
  by_cases hg : goodWord w = true
  · exact word_at (State.WarmedH.refl s) (good_of_word hg) h
  · cases w with
    | methodLinkNest a i x h2 => exact va_Nw.use rfl (va_Nw.of rfl h)
    | fieldLinkNest a i b n d h2 => exact va_Nw.use rfl (va_Nw.of rfl h)
    | arrayOver t =>
      cases t with
      | object C => exact h
      | _ => exact absurd (by simpa [okw] using hk) hg
    | _ => exact absurd (by simpa [okw] using hk) hg
theorem imf_none (j : Nat → Nat → Nat) : imf j none none = fun _ => none := by
  funext k
  by_cases h : k = 0
  · simp [imf, h]
  · by_cases h1 : k = 1 <;> simp [imf, h, h1]
set_option maxRecDepth 100000 in
set_option maxHeartbeats 4000000 in
theorem sx_of {s : State} {b : Nat} (hts : ∀ w ∈ lw_tbl, w.before #[Value.ref b] s = true) (hgv : (Jvm.Cond.and given_1 narrow_1).before #[Value.ref b] s = true) : ∃ ts : Nat → Nat, SX ts (fun z : Nat => s.heap.size ≤ z) s s.heap := by
  have hs := flat_of_before _ hgv
  have hA : ∀ z : Nat, z < s.heap.size → ¬ (fun z : Nat => s.heap.size ≤ z) z := fun z h1 h2 => by
      exact absurd h1 (Nat.not_lt.mpr h2)
  obtain ⟨t0, et0, hT0⟩ := va_Tof (args := #[Value.ref b]) (tm := (Term.static "PotatoPrints$Text" "TABLE_LIMITS" "[I")) (ty := .int) (N := 1) (f := fun j => .int ((lim 0).getD j 0)) (A := (fun z : Nat => s.heap.size ≤ z)) (by decide) (hs (Cond.arrayOf (Term.static "PotatoPrints$Text" "TABLE_LIMITS" "[I") .int) (by decide +kernel)) (va_eqt (hs (Cond.eq (.length (Term.static "PotatoPrints$Text" "TABLE_LIMITS" "[I")) (.int 1)) (by decide +kernel))) (fun j hj => by
      obtain rfl : j = 0 := by omega
      exact va_eqt (hs (Cond.eq (.elem (Term.static "PotatoPrints$Text" "TABLE_LIMITS" "[I") (.int 0)) (.int 12)) (by decide +kernel))
  ) hA
  obtain ⟨t1, et1, hT1⟩ := va_Tof (args := #[Value.ref b]) (tm := (Term.static "PotatoPrints$Text" "POTATO_LIMITS" "[I")) (ty := .int) (N := 5) (f := fun j => .int ((lim 1).getD j 0)) (A := (fun z : Nat => s.heap.size ≤ z)) (by decide) (hs (Cond.arrayOf (Term.static "PotatoPrints$Text" "POTATO_LIMITS" "[I") .int) (by decide +kernel)) (va_eqt (hs (Cond.eq (.length (Term.static "PotatoPrints$Text" "POTATO_LIMITS" "[I")) (.int 5)) (by decide +kernel))) (fun j hj => by
      rcases (show j = 0 ∨ j = 1 ∨ j = 2 ∨ j = 3 ∨ j = 4 by omega) with rfl | rfl | rfl | rfl | rfl
      · exact va_eqt (hs (Cond.eq (.elem (Term.static "PotatoPrints$Text" "POTATO_LIMITS" "[I") (.int 0)) (.int 1)) (by decide +kernel))
      · exact va_eqt (hs (Cond.eq (.elem (Term.static "PotatoPrints$Text" "POTATO_LIMITS" "[I") (.int 1)) (.int 15)) (by decide +kernel))
      · exact va_eqt (hs (Cond.eq (.elem (Term.static "PotatoPrints$Text" "POTATO_LIMITS" "[I") (.int 2)) (.int 15)) (by decide +kernel))
      · exact va_eqt (hs (Cond.eq (.elem (Term.static "PotatoPrints$Text" "POTATO_LIMITS" "[I") (.int 3)) (.int 15)) (by decide +kernel))
      · exact va_eqt (hs (Cond.eq (.elem (Term.static "PotatoPrints$Text" "POTATO_LIMITS" "[I") (.int 4)) (.int 15)) (by decide +kernel))
  ) hA
  obtain ⟨t2, et2, hT2⟩ := va_Tof (args := #[Value.ref b]) (tm := (Term.static "PotatoPrints$Text" "PRINT_LIMITS" "[I")) (ty := .int) (N := 5) (f := fun j => .int ((lim 2).getD j 0)) (A := (fun z : Nat => s.heap.size ≤ z)) (by decide) (hs (Cond.arrayOf (Term.static "PotatoPrints$Text" "PRINT_LIMITS" "[I") .int) (by decide +kernel)) (va_eqt (hs (Cond.eq (.length (Term.static "PotatoPrints$Text" "PRINT_LIMITS" "[I")) (.int 5)) (by decide +kernel))) (fun j hj => by
      rcases (show j = 0 ∨ j = 1 ∨ j = 2 ∨ j = 3 ∨ j = 4 by omega) with rfl | rfl | rfl | rfl | rfl
      · exact va_eqt (hs (Cond.eq (.elem (Term.static "PotatoPrints$Text" "PRINT_LIMITS" "[I") (.int 0)) (.int 5)) (by decide +kernel))
      · exact va_eqt (hs (Cond.eq (.elem (Term.static "PotatoPrints$Text" "PRINT_LIMITS" "[I") (.int 1)) (.int 1)) (by decide +kernel))
      · exact va_eqt (hs (Cond.eq (.elem (Term.static "PotatoPrints$Text" "PRINT_LIMITS" "[I") (.int 2)) (.int 7)) (by decide +kernel))
      · exact va_eqt (hs (Cond.eq (.elem (Term.static "PotatoPrints$Text" "PRINT_LIMITS" "[I") (.int 3)) (.int 7)) (by decide +kernel))
      · exact va_eqt (hs (Cond.eq (.elem (Term.static "PotatoPrints$Text" "PRINT_LIMITS" "[I") (.int 4)) (.int 3)) (by decide +kernel))
  ) hA
  obtain ⟨adK, adV, hk, hke⟩ := vk_Sof (args := #[Value.ref b]) (s := s) (N := 3) (tm := (fun i => if i = 0 then Term.string "PotatoPrints$Text" 82 else if i = 1 then Term.string "PotatoPrints$Text" 88 else Term.string "PotatoPrints$Text" 90)) (len := slens) (byt := sbys) (A := (fun z : Nat => s.heap.size ≤ z))
    (fun i hi => by
      rcases (show i = 0 ∨ i = 1 ∨ i = 2 by omega) with rfl | rfl | rfl <;> decide
    )
    (fun i hi => by
      rcases (show i = 0 ∨ i = 1 ∨ i = 2 by omega) with rfl | rfl | rfl
      · exact (hs (Cond.exactly (Term.string "PotatoPrints$Text" 82) "java/lang/String") (by decide +kernel))
      · exact (hs (Cond.exactly (Term.string "PotatoPrints$Text" 88) "java/lang/String") (by decide +kernel))
      · exact (hs (Cond.exactly (Term.string "PotatoPrints$Text" 90) "java/lang/String") (by decide +kernel))
    )
    (fun i hi => by
      rcases (show i = 0 ∨ i = 1 ∨ i = 2 by omega) with rfl | rfl | rfl
      · exact (hs (Cond.eq (.field (Term.string "PotatoPrints$Text" 82) "java/lang/String" "coder" "B") (.int 0)) (by decide +kernel))
      · exact (hs (Cond.eq (.field (Term.string "PotatoPrints$Text" 88) "java/lang/String" "coder" "B") (.int 0)) (by decide +kernel))
      · exact (hs (Cond.eq (.field (Term.string "PotatoPrints$Text" 90) "java/lang/String" "coder" "B") (.int 0)) (by decide +kernel))
    )
    (fun i hi => by
      rcases (show i = 0 ∨ i = 1 ∨ i = 2 by omega) with rfl | rfl | rfl
      · exact (hs (Cond.arrayOf (Term.field (Term.string "PotatoPrints$Text" 82) "java/lang/String" "value" "[B") .byte) (by decide +kernel))
      · exact (hs (Cond.arrayOf (Term.field (Term.string "PotatoPrints$Text" 88) "java/lang/String" "value" "[B") .byte) (by decide +kernel))
      · exact (hs (Cond.arrayOf (Term.field (Term.string "PotatoPrints$Text" 90) "java/lang/String" "value" "[B") .byte) (by decide +kernel))
    )
    (fun i hi => by
      rcases (show i = 0 ∨ i = 1 ∨ i = 2 by omega) with rfl | rfl | rfl
      · exact (hs (Cond.eq (.length (Term.field (Term.string "PotatoPrints$Text" 82) "java/lang/String" "value" "[B")) (.int 5)) (by decide +kernel))
      · exact (hs (Cond.eq (.length (Term.field (Term.string "PotatoPrints$Text" 88) "java/lang/String" "value" "[B")) (.int 6)) (by decide +kernel))
      · exact (hs (Cond.eq (.length (Term.field (Term.string "PotatoPrints$Text" 90) "java/lang/String" "value" "[B")) (.int 5)) (by decide +kernel))
    )
    (fun i hi j hj => by
      rcases (show i = 0 ∨ i = 1 ∨ i = 2 by omega) with rfl | rfl | rfl
      · have hj : j < 5 := hj
        rcases (show j = 0 ∨ j = 1 ∨ j = 2 ∨ j = 3 ∨ j = 4 by omega) with rfl | rfl | rfl | rfl | rfl
        · exact (hs (Cond.eq (.elem (Term.field (Term.string "PotatoPrints$Text" 82) "java/lang/String" "value" "[B") (.int 0)) (.int 116)) (by decide +kernel))
        · exact (hs (Cond.eq (.elem (Term.field (Term.string "PotatoPrints$Text" 82) "java/lang/String" "value" "[B") (.int 1)) (.int 97)) (by decide +kernel))
        · exact (hs (Cond.eq (.elem (Term.field (Term.string "PotatoPrints$Text" 82) "java/lang/String" "value" "[B") (.int 2)) (.int 98)) (by decide +kernel))
        · exact (hs (Cond.eq (.elem (Term.field (Term.string "PotatoPrints$Text" 82) "java/lang/String" "value" "[B") (.int 3)) (.int 108)) (by decide +kernel))
        · exact (hs (Cond.eq (.elem (Term.field (Term.string "PotatoPrints$Text" 82) "java/lang/String" "value" "[B") (.int 4)) (.int 101)) (by decide +kernel))
      · have hj : j < 6 := hj
        rcases (show j = 0 ∨ j = 1 ∨ j = 2 ∨ j = 3 ∨ j = 4 ∨ j = 5 by omega) with rfl | rfl | rfl | rfl | rfl | rfl
        · exact (hs (Cond.eq (.elem (Term.field (Term.string "PotatoPrints$Text" 88) "java/lang/String" "value" "[B") (.int 0)) (.int 112)) (by decide +kernel))
        · exact (hs (Cond.eq (.elem (Term.field (Term.string "PotatoPrints$Text" 88) "java/lang/String" "value" "[B") (.int 1)) (.int 111)) (by decide +kernel))
        · exact (hs (Cond.eq (.elem (Term.field (Term.string "PotatoPrints$Text" 88) "java/lang/String" "value" "[B") (.int 2)) (.int 116)) (by decide +kernel))
        · exact (hs (Cond.eq (.elem (Term.field (Term.string "PotatoPrints$Text" 88) "java/lang/String" "value" "[B") (.int 3)) (.int 97)) (by decide +kernel))
        · exact (hs (Cond.eq (.elem (Term.field (Term.string "PotatoPrints$Text" 88) "java/lang/String" "value" "[B") (.int 4)) (.int 116)) (by decide +kernel))
        · exact (hs (Cond.eq (.elem (Term.field (Term.string "PotatoPrints$Text" 88) "java/lang/String" "value" "[B") (.int 5)) (.int 111)) (by decide +kernel))
      · have hj : j < 5 := hj
        rcases (show j = 0 ∨ j = 1 ∨ j = 2 ∨ j = 3 ∨ j = 4 by omega) with rfl | rfl | rfl | rfl | rfl
        · exact (hs (Cond.eq (.elem (Term.field (Term.string "PotatoPrints$Text" 90) "java/lang/String" "value" "[B") (.int 0)) (.int 112)) (by decide +kernel))
        · exact (hs (Cond.eq (.elem (Term.field (Term.string "PotatoPrints$Text" 90) "java/lang/String" "value" "[B") (.int 1)) (.int 114)) (by decide +kernel))
        · exact (hs (Cond.eq (.elem (Term.field (Term.string "PotatoPrints$Text" 90) "java/lang/String" "value" "[B") (.int 2)) (.int 105)) (by decide +kernel))
        · exact (hs (Cond.eq (.elem (Term.field (Term.string "PotatoPrints$Text" 90) "java/lang/String" "value" "[B") (.int 3)) (.int 110)) (by decide +kernel))
        · exact (hs (Cond.eq (.elem (Term.field (Term.string "PotatoPrints$Text" 90) "java/lang/String" "value" "[B") (.int 4)) (.int 116)) (by decide +kernel))
    )
    (fun i j hi hj hij => by
      rcases (show i = 0 ∨ i = 1 ∨ i = 2 by omega) with rfl | rfl | rfl
      · rcases (show j = 1 ∨ j = 2 by omega) with rfl | rfl
        · exact Or.inl (hs (Cond.not (Cond.eq (Term.string "PotatoPrints$Text" 82) (Term.string "PotatoPrints$Text" 88))) (by decide +kernel))
        · exact Or.inl (hs (Cond.not (Cond.eq (Term.string "PotatoPrints$Text" 82) (Term.string "PotatoPrints$Text" 90))) (by decide +kernel))
      · rcases (show j = 0 ∨ j = 2 by omega) with rfl | rfl
        · exact Or.inr (hs (Cond.not (Cond.eq (Term.string "PotatoPrints$Text" 82) (Term.string "PotatoPrints$Text" 88))) (by decide +kernel))
        · exact Or.inl (hs (Cond.not (Cond.eq (Term.string "PotatoPrints$Text" 88) (Term.string "PotatoPrints$Text" 90))) (by decide +kernel))
      · rcases (show j = 0 ∨ j = 1 by omega) with rfl | rfl
        · exact Or.inr (hs (Cond.not (Cond.eq (Term.string "PotatoPrints$Text" 82) (Term.string "PotatoPrints$Text" 90))) (by decide +kernel))
        · exact Or.inr (hs (Cond.not (Cond.eq (Term.string "PotatoPrints$Text" 88) (Term.string "PotatoPrints$Text" 90))) (by decide +kernel))
    ) hA
  refine ⟨fun i => if i = 0 then t0 else if i = 1 then t1 else if i = 2 then t2 else if i < 6 then adK (i - 3) else adV (i - 6), ?_⟩
  refine ⟨va_Zof (hts (.laysStatic "java/lang/String" "COMPACT_STRINGS" "Z") (tb_m 352 (by decide +kernel))) (hts (.initialized "java/lang/String") (tb_m 64 (by decide +kernel))) (va_eqi (hs (Cond.eq (.static "java/lang/String" "COMPACT_STRINGS" "Z") (.int 1)) (by decide +kernel))) hA, va_Zqof (hts (.laysStatic "jdk/internal/util/Preconditions" "SIOOBE_FORMATTER" "Ljava/util/function/BiFunction;") (tb_m 368 (by decide +kernel))) (hts (.initialized "jdk/internal/util/Preconditions") (tb_m 66 (by decide +kernel))) (hs (Cond.isRef (.static "jdk/internal/util/Preconditions" "SIOOBE_FORMATTER" "Ljava/util/function/BiFunction;")) (by decide +kernel)) hA, va_Zref (hts (.laysStatic "PotatoPrints$Text" "TABLE_LIMITS" "[I") (tb_m 401 (by decide +kernel))) (hts (.initialized "PotatoPrints$Text") (tb_m 56 (by decide +kernel))) et0 hA, va_Zref (hts (.laysStatic "PotatoPrints$Text" "POTATO_LIMITS" "[I") (tb_m 403 (by decide +kernel))) (hts (.initialized "PotatoPrints$Text") (tb_m 56 (by decide +kernel))) et1 hA, va_Zref (hts (.laysStatic "PotatoPrints$Text" "PRINT_LIMITS" "[I") (tb_m 405 (by decide +kernel))) (hts (.initialized "PotatoPrints$Text") (tb_m 56 (by decide +kernel))) et2 hA, fun k hk3 => ?_, vk_R.of (A := #[Value.ref b]) (hts (.stringRef "PotatoPrints$Text" 82 "table") (tb_m 338 (by decide +kernel))) (hke 0 (by decide)), vk_R.of (A := #[Value.ref b]) (hts (.stringRef "PotatoPrints$Text" 88 "potato") (tb_m 391 (by decide +kernel))) (hke 1 (by decide)), vk_R.of (A := #[Value.ref b]) (hts (.stringRef "PotatoPrints$Text" 90 "print") (tb_m 392 (by decide +kernel))) (hke 2 (by decide)), ⟨fun i hi => ?_, fun i j hi hj h => ?_⟩⟩
  · rcases (show k = 0 ∨ k = 1 ∨ k = 2 by omega) with rfl | rfl | rfl
    · exact hT0
    · exact hT1
    · exact hT2
  · have h9 := hk.1 i hi
    rcases (show i = 0 ∨ i = 1 ∨ i = 2 by omega) with rfl | rfl | rfl
    · exact h9
    · exact h9
    · exact h9
  · have h9 := hk.2 i j hi hj
    rcases (show i = 0 ∨ i = 1 ∨ i = 2 by omega) with rfl | rfl | rfl
    all_goals (rcases (show j = 0 ∨ j = 1 ∨ j = 2 by omega) with rfl | rfl | rfl)
    all_goals exact h9 h
set_option maxRecDepth 100000 in
set_option maxHeartbeats 4000000 in
theorem kx_of {s : State} {b : Nat} (hts : ∀ w ∈ lw_tbl, w.before #[Value.ref b] s = true) : ∃ (G : va_G) (cs : Nat → Nat), va_K G vwCl (tyl cs) s := by
  obtain ⟨c0, iS0, hKn0⟩ := u_known (C := RX2) (T := TX2) (N := 11) (n := 11) hts (fun w h => (layX2 w h).1) (hts (.instantiable RX2 11) (tb_m 77 (by decide +kernel)))
  obtain ⟨c1, iS1, hKn1⟩ := u_known (C := RX3) (T := TX3) (N := 7) (n := 7) hts (fun w h => (layX3 w h).1) (hts (.instantiable RX3 7) (tb_m 129 (by decide +kernel)))
  obtain ⟨c2, iS2, hKn2⟩ := u_known (C := RX4) (T := TX4) (N := 10) (n := 10) hts (fun w h => (layX4 w h).1) (hts (.instantiable RX4 10) (tb_m 69 (by decide +kernel)))
  obtain ⟨c3, iS3, hKn3⟩ := u_known (C := RX5) (T := TX5) (N := 22) (n := 22) hts (fun w h => (layX5 w h).1) (hts (.instantiable RX5 22) (tb_m 635 (by decide +kernel)))
  obtain ⟨a0, k0, p0, f0, g0, e0⟩ := Cond.arrayClass_spec (hts (.arrayClass .int) (tb_m 126 (by decide +kernel)))
  obtain ⟨a1, k1, p1, f1, g1, e1⟩ := Cond.arrayClass_spec (hts (.arrayClass .byte) (tb_m 157 (by decide +kernel)))
  obtain ⟨a2, k2, p2, f2, g2, e2⟩ := Cond.arrayClass_spec (hts (.arrayClass .long) (tb_m 189 (by decide +kernel)))
  obtain ⟨a3, k3, p3, f3, g3, e3⟩ := Cond.arrayClass_spec (hts (.arrayClass .boolean) (tb_m 707 (by decide +kernel)))
  obtain ⟨p4, a4, k4, e4, -, g4, f4, h4⟩ := Cond.arrayOver_spec (hts (.arrayOver (.object "PotatoPrints$Table")) (tb_m 127 (by decide +kernel)))
  refine ⟨(fun k => if k = 0 then c0 else if k = 1 then c1 else if k = 2 then c2 else c3, fun k => if k = 0 then iS0 else if k = 1 then iS1 else if k = 2 then iS2 else iS3), fun k => if k = 0 then a0 else if k = 1 then a1 else if k = 2 then a2 else if k = 3 then a3 else a4, fun k z hz => ?_, fun k z hz => ?_⟩
  · match k, hz with
    | 0, hz => cases hz; exact hKn0
    | 1, hz => cases hz; exact hKn1
    | 2, hz => cases hz; exact hKn2
    | 3, hz => cases hz; exact hKn3
    | k + 4, hz => simp [vwCl] at hz
  · match k, hz with
    | 0, hz => cases hz; exact ⟨fun n z => ⟨fun k h => (by cases h), k0, g0, p0, e0⟩, f0⟩
    | 1, hz => cases hz; exact ⟨fun n z => ⟨fun k h => (by cases h), k1, g1, p1, e1⟩, f1⟩
    | 2, hz => cases hz; exact ⟨fun n z => ⟨fun k h => (by cases h), k2, g2, p2, e2⟩, f2⟩
    | 3, hz => cases hz; exact ⟨fun n z => ⟨fun k h => (by cases h), k3, g3, p3, e3⟩, f3⟩
    | 4, hz => cases hz; exact ⟨fun n z => ⟨fun k h => (by cases h), k4, g4, p4, f4⟩, ⟨k4, p4, g4, f4, e4, h4⟩⟩
    | k + 5, hz => simp [tyl] at hz
set_option maxRecDepth 100000 in
set_option maxHeartbeats 4000000 in
theorem start_of (IV : ZI → ZI → ZI → ZI → ZL → Option ZI → Option ZI → ZI → ZL → Prop) (hst : LawSteps IV) (h0 : IV Z0 Z0 Z0 Z0 LP0 none none Z0 LM0) {p : Program} {e : Env} {s : State} {m : MethodId} {below : List Frame} {meth : Method} {c : Code} (l : Launch) {b L : Nat} {xs : Nat → Int32} (hL : L ≤ 512) (C0 : lw_At p s m meth c b L xs) : W p l e room_1 s m #[Value.ref b] below meth c s.heap [] 0 0 (lw_Z below #[Value.ref b] s) (entryFrame m ([Value.ref b] : List Value).toArray 4) := by
  obtain ⟨hx, hb, hr, hml, hown, hts, hX, hbl, hlocks, hgv⟩ := id C0
  have hT : TBok s := fun w hm hk => tb_any hk (hts w hm)
  obtain ⟨ts, hSX⟩ := sx_of hts hgv
  obtain ⟨G, cs, hK⟩ := kx_of hts
  have hA : ∀ z : Nat, s.heap.size ≤ z → (fun z : Nat => s.heap.size ≤ z) z := fun _ h => h
  have hC : CX G cs ts (fun z : Nat => s.heap.size ≤ z) s := ⟨hSX, hK, hA⟩
  have hS : va_S (fun z : Nat => s.heap.size ≤ z) s.heap s.heap [] := va_S.rf
  have hP : va_P G vwCl [] s.heap := fun k z h => by simp at h
  have hD : va_D (fun z : Nat => s.heap.size ≤ z) [] := ⟨fun i j p z h => by simp at h, fun k z h => by simp at h⟩
  have hl := lv_entry ([.ref b]) (n := 4) (Nat.le_of_ble_eq_true rfl)
  rw [lg_entry_eq]
  generalize (lg_sl ([.ref b]) ++ List.replicate (4 - (lg_sl ([.ref b])).length) Slot.unset).toArray = ls at hl ⊢
  have hl : lv_has ls 4 [(0, .ref b)] := hl
  refine nw_L_X4 hx hb hT hown hC hP hD hS (Nat.le_of_ble_eq_true rfl) (Nat.le_of_ble_eq_true rfl) dL_law_0 (fun qp H hP hD hS => ?_)
  have hP : va_P G vwCl [(qp, .inr (2, [.null, .null, .null, .null, .null, .long 0, .long 0, .int 0, .int 0, .int 0]))] H := hP
  have hD : va_D (fun z : Nat => s.heap.size ≤ z) [(qp, .inr (2, [.null, .null, .null, .null, .null, .long 0, .long 0, .int 0, .int 0, .int 0]))] := hD
  refine W.widen (k := 1) (n := 10) (by omega) (by omega) ?_
  refine lv_dup hx hb dL_law_3 rfl ?_
  refine wv_mk (wr := []) [0] [] (rn_I (rest := [.ref qp]) (wc := [(qp, .inr (2, [.null, .null, .null, .null, .null, .long 0, .long 0, .int 0, .int 0, .int 0]))]) hx hb hml hown hT hl.1 hC hS hP hD ck_L_9 (c_X4_init l G cs ts qp H.size) ⟨rfl, rfl, (Nat.le_of_ble_eq_true rfl), (Nat.le_of_ble_eq_true rfl)⟩ ⟨(Nat.le_of_ble_eq_true rfl), (Nat.le_of_ble_eq_true rfl)⟩ rfl rfl (Nat.le_of_ble_eq_true rfl) dL_law_4) hP hD hS hA rfl rfl rfl (by decide) (fun q H9 locs9 hP9 hD9 hS9 hq => ?_)
  clear hP hD hS
  subst hq
  have hP : va_P G vwCl (piW q cs (fun _ => none) Z0 Z0 Z0 Z0 LP0) H9 := hP9
  have hD : va_D (fun z : Nat => s.heap.size ≤ z) (piW q cs (fun _ => none) Z0 Z0 Z0 Z0 LP0) := hD9
  have hS := hS9
  clear hP9 hD9 hS9
  refine W.widen (k := 22) (n := 1672) (by omega) (by omega) ?_
  refine lv_astore_n (lv' := [(1, .ref (q 0 99)), (0, .ref b)]) hx hb dL_law_7 rfl hl (by decide) rfl (fun ls hl => ?_)
  refine nw_L_X5 hx hb hT hown hC hP hD hS (Nat.le_of_ble_eq_true rfl) (Nat.le_of_ble_eq_true rfl) dL_law_8 (fun qm H hP hD hS => ?_)
  refine W.widen (k := 23) (n := 1694) (by omega) (by omega) ?_
  refine lv_dup hx hb dL_law_11 rfl ?_
  have hP := va_P.cm hP
  have hD := va_D.cm hD
  refine lw_v (rn_I (rest := [.ref qm]) (wc := [(qm, .inr (3, [.null, .long 0, .long 0, .null, .null, .null, .int 0, .null, .int 0, .int 0, .int 0, .int 0, .int 0, .null, .null, .null, .null, .long 0, .null, .null, .null, .null]))]) hx hb hml hown hT hl.1 hC hS hP.lf hD.lf ck_L_12 (c_X5_init l G cs ts qm H.size) ⟨rfl, rfl, (Nat.le_of_ble_eq_true rfl), (Nat.le_of_ble_eq_true rfl)⟩ ⟨(Nat.le_of_ble_eq_true rfl), (Nat.le_of_ble_eq_true rfl)⟩ rfl rfl (Nat.le_of_ble_eq_true rfl) dL_law_12) hP hD hS hA (fun a H9 locs9 hP9 hD9 hS9 ha => ?_)
  clear hP hD hS
  subst ha
  refine W.widen (k := 36 + 8 * 0) (n := 4196 + 621 * 0) (by omega) (by omega) ?_
  have hP := va_P.cm hP9
  have hD := va_D.cm hD9
  have hS := hS9
  refine lv_astore_n (lv' := [(2, .ref (a 99)), (1, .ref (q 0 99)), (0, .ref b)]) hx hb dL_law_15 rfl hl (by decide) rfl (fun ls hl => ?_)
  refine lv_iconst (v := 0) hx hb dL_law_16 (by decide) ?_
  refine lv_istore_n (lv' := [(3, .int 0), (2, .ref (a 99)), (1, .ref (q 0 99)), (0, .ref b)]) hx hb dL_law_17 rfl hl (by decide) rfl (fun ls hl => ?_)
  rw [← imf_none q] at hP hD
  exact law_loop IV hst hL C0 hT hC (L + 1) 0 (Nat.zero_le L) (by omega) Z0 Z0 Z0 Z0 LP0 none none Z0 LM0 h0 q _ _ hP hD hS ls (lv_sub hl [3, 2, 1, 0] rfl)
