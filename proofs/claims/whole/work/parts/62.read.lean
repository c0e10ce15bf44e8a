/-! read -/
theorem fN_le {b : Nat → Nat} {w v e s : Nat} (he : e ≤ w) : ∀ n i, fN b w v e n i = some s → s ≤ w := by
  intro n
  induction n with
  | zero =>
    intro i h
    cases h
  | succ n ih =>
    intro i h
    by_cases ho : okN b w v e i
    · rw [fN_ok ho] at h
      exact ih (i + 1) h
    · rw [fN_no ho] at h
      cases h
      exact (tN_le he i).2
theorem jz_le {b : Nat → Nat} {w v e s : Nat} (he : e ≤ w) (h : jz b w v e = some s) : s ≤ w := by
  cases hf : fN b w v e (lml v) 0 with
  | some f =>
    rw [jz_some hf] at h
    cases h
    exact fN_le he _ _ hf
  | none =>
    rw [jz_none hf] at h
    split at h
    · cases h
    · cases h
      exact (tN_le he _).2
theorem iz_le {b : Nat → Nat} {w e y s : Nat} (he : e ≤ w) (h : iz b w e y = some s) : s ≤ w := by
  obtain ⟨t1, t2⟩ := ts_le (b := b) he
  by_cases g : kk b w (ts b w e) = 1 ∧ (kv b w (ts b w e) = 0 ↔ y = 0)
  · rw [iz_j g] at h
    exact jz_le (ke_le (b := b) t2).2 h
  · rw [iz_w g] at h
    cases h
    exact t2
theorem rz_le {b : Nat → Nat} {w s : Nat} : ∀ n e y, e ≤ w → rz b w n e y = some s → s ≤ w := by
  intro n
  induction n with
  | zero =>
    intro e y he h
    cases h
  | succ n ih =>
    intro e y he h
    by_cases h0 : kk b w (ts b w e) = 0 ∧ 0 < y
    · rw [rz_end h0] at h
      cases h
    · cases hi : iz b w e y with
      | some f =>
        rw [rz_some h0 hi] at h
        cases h
        exact iz_le he hi
      | none =>
        rw [rz_none h0 hi] at h
        exact ih _ _ (ie_gt he hi).2 h
theorem s5_text0 {M : ZI} {L : ZL} {b : Nat → Nat} {w : Nat} (hM : TM M b w) {post : Int32 → ZI → ZL → Prop} (hf : ∀ s Y, rz b w (w + 1) 0 0 = some s → MF M Y → Y 12 0 = nI s → post (-1) Y L) (hk : rz b w (w + 1) 0 0 = none → ∀ y Y, y ≤ 150 → MF M Y → post (nI y) Y L) : w_X5_readText M L 0 post := by
  unfold w_X5_readText
  rintro M1 rfl
  refine s5_next (M := mu M 9 0 0) (e := 0) (hM.re rfl rfl) rfl (Nat.zero_le _) (fun Y hY => ⟨w + 1, ?_⟩)
  have m1 : MF M (mu M 9 0 0) := fun a ha => if_neg (by omega)
  exact s5_pass0 (M0 := M) hM hf hk w 0 0 (by omega) (Nat.zero_le _) (Nat.le_refl _) rfl Y (m1.tr hY.mf) hY.sg
theorem s5_text1 {M M' : ZI} {L : ZL} {b : Nat → Nat} {w : Nat} (hM : TM M b w) (hM' : MF M M') {post : Int32 → ZI → ZL → Prop} (h : ∃ q, ∀ Mx, MG M Mx → SG Mx b w 0 → itF (w_X5_readText_L11 1 post (fun (M32 : ZI) (L33 : ZL) (v34 : Int32) => post v34 M32 L33)) (fun _ _ _ => False) q Mx L (nI 0)) : w_X5_readText M' L 1 post := by
  unfold w_X5_readText
  rintro M1 rfl
  have m0 : TM M' b w := hM.re (hM' 7 (by decide)) (hM' 8 (by decide))
  obtain ⟨q, hq⟩ := h
  refine s5_next (M := mu M' 9 0 0) (e := 0) (m0.re rfl rfl) rfl (Nat.zero_le _) (fun Y hY => ⟨q, ?_⟩)
  have m1 : MF M' (mu M' 9 0 0) := fun a ha => if_neg (by omega)
  exact hq Y ((hM'.tr m1).tr hY.mf).mg hY.sg
/-- the class's table after y items; what the reference makes of them -/
def RB (M : ZI) (L : ZL) (b : Nat → Nat) (w e y : Nat) (T : ZI) : Prop := (0 < y → WT T) ∧ ∀ post : Int32 → ZI → ZL → Prop, (∃ q, ∀ Mx, MG M Mx → SG Mx b w e → (0 < y → RT T (Mx 0) (Mx 5) (Mx 6 0)) → itF (w_X5_readText_L11 1 post (fun (M32 : ZI) (L33 : ZL) (v34 : Int32) => post v34 M32 L33)) (fun _ _ _ => False) q Mx L (nI y)) → ∃ q, ∀ Mx, MG M Mx → SG Mx b w 0 → itF (w_X5_readText_L11 1 post (fun (M32 : ZI) (L33 : ZL) (v34 : Int32) => post v34 M32 L33)) (fun _ _ _ => False) q Mx L (nI 0)
theorem RB_step {M : ZI} {L : ZL} {b : Nat → Nat} {w : Nat} (hM : TM M b w) : ∀ e y T, e ≤ w → y ≤ e → RB M L b w e y T → iz b w e y = none → ∀ Y post, TX Y b w → (∀ j, j < lml (kv b w (ts b w e)) → Y 6 j = nI (nmv b w e j)) → (∀ T', RB M L b w (ie b w e) (y + 1) T' → post Y T') → w_X3_putItem Y T (nI (kv b w (ts b w e))) post := by
  intro e y T he hy hR hz Y post hY y6 h
  obtain ⟨i1, i2, i3⟩ := iz_ok hz
  obtain ⟨j1, j2⟩ := jz_ok i3
  have hv := (kk1 i1).2.2.2
  have hl : ∀ j, j < lml (kv b w (ts b w e)) → nmv b w e j ≤ lmt (kv b w (ts b w e)) j := fun j hj => (fN_none _ _ j1 j (Nat.zero_le _) (by omega)).2
  have hT : kv b w (ts b w e) = 0 ∨ WT T := by
    by_cases hy0 : y = 0
    · exact Or.inl (i2.mpr hy0)
    · exact Or.inr (hR.1 (by omega))
  refine s3_put (f := nmv b w e) hv hl y6 hT (fun T' hI => h T' ⟨fun _ => IS_wt hv hl hT hI, fun post5 hq => ?_⟩)
  obtain ⟨q, hq⟩ := hq
  refine hR.2 post5 ⟨q + 1, fun Mx m1 m2 m3 => ?_⟩
  show w_X5_readText_L11 1 post5 _ (itF _ _ q) Mx L (nI y)
  exact s5_b1 (hM.re (m1 7 (by decide)) (m1 8 (by decide))) he hy m2 hz hI m3 (fun Z z1 z2 z3 => hq Z (m1.tr z1) z2 (fun _ => z3))
theorem Inv.rd {N N' D D' X X' PM : ZI} {PL : ZL} {i0 i1 : Option ZI} {M M' : ZI} {L : ZL} {b : Nat → Nat} {w : Nat} (h : Inv N D X PM PL i0 i1 M L) (hR : RT N' (M' 0) (M' 5) (M' 6 0)) (hX : TX X' b w) (hM : TM M b w) (hG : MG M M') : Inv N' D' X' PM PL i0 i1 M' L := by
  obtain ⟨g1, g2, g3, g4, g5, g6⟩ := h
  refine ⟨hR, ?_, ?_, ?_, ?_, g6⟩
  · rw [hG 18 (by decide), hG 19 (by decide), hG 20 (by decide), hG 21 (by decide)]
    exact g2
  · rw [hG 18 (by decide), hG 19 (by decide), hG 20 (by decide), hG 21 (by decide)]
    exact g3
  · rw [hG 7 (by decide), hG 8 (by decide)]
    exact ⟨hX.2.1.trans hM.2.1.symm, w, hX.1, hM.2.1, fun i hi => ⟨(hX.2.2 i hi).1.trans (hM.2.2 i hi).1.symm, b i, (hX.2.2 i hi).2, (hM.2.2 i hi).1⟩⟩
  · rw [hG 3 (by decide)]
    exact g5
theorem T_ngr : ∀ s, s < 151 → ¬ (0 : Int32) ≤ (-10) - nI s := by decide +kernel
theorem p_read : st_read Inv := by
  intro N D X PM PL i0 i1 M L hI
  obtain ⟨x1, w, hw, m8, xb⟩ := hI.2.2.2.1
  have hM : TM M (fun i => (M 7 i).toNatClampNeg) w := ⟨hw, m8, fun i hi => by
    obtain ⟨-, v, hv, ev⟩ := xb i hi
    show M 7 i = nI (M 7 i).toNatClampNeg ∧ (M 7 i).toNatClampNeg ≤ 127
    rw [ev, ncl (by omega)]
    exact ⟨rfl, hv⟩⟩
  have hX : TX X (fun i => (M 7 i).toNatClampNeg) w := ⟨hw, x1.trans m8, fun i hi => ⟨(xb i hi).1.trans (hM.2.2 i hi).1, (hM.2.2 i hi).2⟩⟩
  generalize (fun i => (M 7 i).toNatClampNeg) = b at hM hX
  unfold w_X4_read w_X3_readInto
  rintro X1 rfl
  refine ⟨w + 1, s3_loop (b := b) (w := w) (o := rz b w (w + 1) 0 0) (R := RB M L b w) (RB_step hM) (fun s Y T ho hY => ?_) (fun ho e y he hy k0 y0 Y T hY hT => ?_) w 0 0 (by omega) (Nat.zero_le _) (Nat.le_refl _) rfl (mu X 3 0 0) D (hX.re rfl rfl) rfl ⟨fun q => absurd q (Nat.lt_irrefl 0), fun post5 hq => ?_⟩⟩
  · have hs := rz_le _ _ _ (Nat.zero_le w) ho
    refine bF (T_ngr s (by omega)) ?_
    unfold w_X5_read
    refine s5_text0 hM (fun s' Z q z1 z2 => bF (by decide) ?_) (fun q => by rw [ho] at q; cases q)
    rw [ho] at q
    cases q
    rw [z2]
    refine ⟨rfl, hI.rd ?_ hY hM z1.mg⟩
    rw [z1 0 (by decide), z1 5 (by decide), z1 6 (by decide)]
    exact hI.1
  · refine bT (nI_le (a := 0) (Nat.zero_le _) (by omega)) (s_takeOver (fun N4 t0 t1 t2 t3 t4 t5 t6 t7 t8 t9 t10 => ?_))
    unfold w_X5_read
    refine s5_text0 hM (fun s' Z q => by rw [ho] at q; cases q) (fun _ y1 Z hy1 hZ => bT (nI_le (a := 0) (Nat.zero_le _) (by omega)) (s5_text1 hM hZ (hT.2 _ ⟨1, fun Mx m1 m2 m3 => ?_⟩)))
    show w_X5_readText_L11 1 _ _ _ Mx L (nI y)
    exact L11_end (by omega) m2 ⟨k0, y0⟩ ⟨rfl, hI.rd (RT_same (m3 y0) t0 t1 t2 t3 t4 t5 t6 t7 t8 t9 t10 (fun _ _ => rfl) (fun _ _ => rfl) rfl) hY hM m1⟩
  · obtain ⟨q, hq⟩ := hq
    exact ⟨q, fun Mx m1 m2 => hq Mx m1 m2 (fun z => absurd z (Nat.lt_irrefl 0))⟩
