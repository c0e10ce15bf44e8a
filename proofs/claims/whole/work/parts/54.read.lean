def mk (b : Nat → Nat) (w s : Nat) : Nat := if w ≤ s then 3 else if isl b s then 1 else if isd b s then (if ru (isd b) w s ≤ s + 2 then 2 else 0) else if b s = 59 then 4 else 0
/-- what the law's token leaves -/
def TK (M Y : ZI) (b : Nat → Nat) (w s : Nat) : Prop := (∀ a, ¬ a = 9 → ¬ a = 10 → ¬ a = 11 → ¬ a = 12 → Y a = M a) ∧ Y 12 0 = nI s ∧ Y 10 0 = nI (mk b w s) ∧ (¬ mk b w s = 0 → Y 9 0 = nI (ke b w s)) ∧ (mk b w s = 2 → Y 11 0 = nI (nv b s (ru (isd b) w s)))
def TL (post : ZI → ZL → Prop) (M23 : ZI) (L24 : ZL) : Prop := ((¬ (M23 10 0) = 2 → ((¬ (M23 10 0) = 0 → post M23 L24) ∧ ((M23 10 0) = 0 → w_X5_byteAt M23 L24 (M23 9 0) (fun r25 M26 L27 => ((¬ r25 = 59 → ∀ M28 : ZI, M28 = mu M26 10 0 0 → ∀ M29 : ZI, M29 = mu M28 9 0 ((M28 9 0) + 1) → post M29 L27) ∧ (r25 = 59 → ∀ M30 : ZI, M30 = mu M26 10 0 4 → ∀ M31 : ZI, M31 = mu M30 9 0 ((M30 9 0) + 1) → post M31 L27)))))) ∧ ((M23 10 0) = 2 → ((((M23 9 0) - (M23 12 0)) ≤ 2 → ((¬ (M23 10 0) = 0 → post M23 L24) ∧ ((M23 10 0) = 0 → w_X5_byteAt M23 L24 (M23 9 0) (fun r32 M33 L34 => ((¬ r32 = 59 → ∀ M35 : ZI, M35 = mu M33 10 0 0 → ∀ M36 : ZI, M36 = mu M35 9 0 ((M35 9 0) + 1) → post M36 L34) ∧ (r32 = 59 → ∀ M37 : ZI, M37 = mu M33 10 0 4 → ∀ M38 : ZI, M38 = mu M37 9 0 ((M37 9 0) + 1) → post M38 L34)))))) ∧ (¬ ((M23 9 0) - (M23 12 0)) ≤ 2 → ∀ M39 : ZI, M39 = mu M23 10 0 0 → post M39 L24))))
theorem TL_kind {post : ZI → ZL → Prop} {Z : ZI} {L : ZL} {k : Nat} (hk : k = 1 ∨ k = 3) (z : Z 10 0 = nI k) (h : post Z L) : TL post Z L := by
  unfold TL
  rw [z]
  rcases hk with rfl | rfl
  · exact nF (by decide) (nF (by decide) h)
  · exact nF (by decide) (nF (by decide) h)
theorem TL_num {post : ZI → ZL → Prop} {Z : ZI} {L : ZL} {s e : Nat} (hse : s ≤ e) (he : e ≤ 150) (z10 : Z 10 0 = nI 2) (z9 : Z 9 0 = nI e) (z12 : Z 12 0 = nI s) (h : (e ≤ s + 2 → post Z L) ∧ (¬ e ≤ s + 2 → post (mu Z 10 0 0) L)) : TL post Z L := by
  unfold TL
  rw [z10, z9, z12, nsub hse]
  refine nT rfl ⟨fun q => nF (by decide) (h.1 ?_), fun q => ?_⟩
  · have := (le_iff (b := 2) (by omega) (by decide)).mp q
    omega
  · rintro M39 rfl
    exact h.2 (fun e9 => q ((le_iff (b := 2) (by omega) (by decide)).mpr (by omega)))
theorem TL_zero {post : ZI → ZL → Prop} {Z : ZI} {L : ZL} {b : Nat → Nat} {w s : Nat} (hZ : TM Z b w) (hs : s < w) (z10 : Z 10 0 = nI 0) (z9 : Z 9 0 = nI s) (h : (b s = 59 → post (mu (mu Z 10 0 4) 9 0 (nI (s + 1))) L) ∧ (¬ b s = 59 → post (mu (mu Z 10 0 0) 9 0 (nI (s + 1))) L)) : TL post Z L := by
  have hw := hZ.1
  unfold TL
  rw [z10]
  refine nF (by decide) (nT rfl ?_)
  rw [z9]
  refine s5_byte hZ (by omega) ?_
  have E := bv_eq (b := b) (w := w) (e := s) (k := 59) (fun e => (hZ.2.2 s e).2) (by decide)
  refine ⟨fun q => ?_, fun q => ?_⟩
  · have q : ¬ b s = 59 := fun e9 => q (E.mpr ⟨hs, e9⟩)
    rintro M28 rfl M29 rfl
    have := h.2 q
    rw [← nI_1, ← z9] at this
    exact this
  · have q := (E.mp q).2
    rintro M28 rfl M29 rfl
    have := h.1 q
    rw [← nI_1, ← z9] at this
    exact this
theorem s5_letters {M : ZI} {L : ZL} {b : Nat → Nat} {w s : Nat} (hM : TM M b w) (hs : s < w) {post : ZI → ZL → Prop} {K : ZI → ZL → Prop} (h : ∀ Y : ZI, TK M Y b w s → post Y L) : ∀ n e, s ≤ e → e ≤ w → w - e ≤ n → ∀ Y : ZI, (∀ a, ¬ a = 9 → ¬ a = 10 → ¬ a = 11 → ¬ a = 12 → Y a = M a) → Y 12 0 = nI s → Y 11 0 = nI 0 → Y 9 0 = nI e → Y 10 0 = nI (if e = s then 0 else 1) → (s < e → isl b s = true) → ru (isl b) w e = ru (isl b) w s → ∃ q, itF (w_X5_nextToken_L59 post K) (fun _ _ => False) q Y L := by
  have hw := hM.1
  have fin : ∀ e, s ≤ e → e ≤ w → (decide (e < w) && isl b e) = false → ∀ Y : ZI, (∀ a, ¬ a = 9 → ¬ a = 10 → ¬ a = 11 → ¬ a = 12 → Y a = M a) → Y 12 0 = nI s → Y 11 0 = nI 0 → Y 9 0 = nI e → Y 10 0 = nI (if e = s then 0 else 1) → (s < e → isl b s = true) → ru (isl b) w e = ru (isl b) w s → ∃ q, itF (w_X5_nextToken_L106 post (TL post)) (fun _ _ => False) q Y L := by
    intro e hse he hc Y y1 y12 y11 y9 y10 hi hr
    have hY : TM Y b w := hM.re (y1 7 (by decide) (by decide) (by decide) (by decide)) (y1 8 (by decide) (by decide) (by decide) (by decide))
    have er : ru (isl b) w e = e := ru_no (fun e9 => by rw [decide_eq_true e9, Bool.true_and] at hc; exact hc)
    by_cases hes : e = s
    · subst hes
      rw [decide_eq_true hs, Bool.true_and] at hc
      rw [if_pos rfl] at y10
      obtain ⟨d1, d2⟩ := ru_le (f := isd b) (w := w) (w - e) e (Nat.le_refl _)
      have d2 := d2 he
      refine s5_figB hY (w - e) e (Nat.le_refl _) he (Nat.le_refl _) Y (fun _ _ _ _ => rfl) y9 (by rw [if_pos rfl]; exact y10) (fun _ => by rw [nv, if_pos rfl]; exact y11) (fun Z z1 z9 z10 z11 => ?_)
      have z12 : Z 12 0 = nI e := (congrFun (z1 12 (by decide) (by decide) (by decide)) 0).trans y12
      have zf : ∀ a, ¬ a = 9 → ¬ a = 10 → ¬ a = 11 → ¬ a = 12 → Z a = M a := fun a a1 a2 a3 a4 => (z1 a a1 a2 a3).trans (y1 a a1 a2 a3 a4)
      have hZ : TM Z b w := hY.re (z1 7 (by decide) (by decide) (by decide)) (z1 8 (by decide) (by decide) (by decide))
      cases hd : isd b e
      · have er2 : ru (isd b) w e = e := ru_no (fun _ => hd)
        rw [er2, if_pos rfl] at z10
        rw [er2] at z9
        have ek : ¬ b e = 59 → mk b w e = 0 := fun q => by
          unfold mk
          rw [if_neg (by omega), hc, hd, if_neg (by decide), if_neg (by decide), if_neg q]
        have ek2 : b e = 59 → mk b w e = 4 ∧ ke b w e = e + 1 := fun q => by
          unfold mk ke
          rw [if_neg (by omega), hc, hd, if_neg (by decide), if_neg (by decide), if_pos q, if_neg (by omega), if_pos q]
          exact ⟨rfl, rfl⟩
        refine TL_zero hZ hs z10 z9 ⟨fun q => h _ ⟨fun a a1 a2 a3 a4 => (if_neg a1).trans ((if_neg a2).trans (zf a a1 a2 a3 a4)), z12, ?_, fun _ => ?_, fun g => ?_⟩, fun q => h _ ⟨fun a a1 a2 a3 a4 => (if_neg a1).trans ((if_neg a2).trans (zf a a1 a2 a3 a4)), z12, ?_, fun g => absurd (ek q) g, fun g => ?_⟩⟩
        · rw [(ek2 q).1]
          rfl
        · rw [(ek2 q).2]
          rfl
        · rw [(ek2 q).1] at g
          exact absurd g (by decide)
        · rw [ek q]
          rfl
        · rw [ek q] at g
          exact absurd g (by decide)
      · have d3 : e < ru (isd b) w e := by
          rw [ru_yes hs hd]
          have := (ru_le (f := isd b) (w := w) (w - (e + 1)) (e + 1) (Nat.le_refl _)).1
          omega
        rw [if_neg (by omega)] at z10
        have n59 : ¬ b e = 59 := fun q => by
          unfold isd at hd
          rw [q] at hd
          cases hd
        have ee : ke b w e = ru (isd b) w e := by
          unfold ke
          rw [if_neg (by omega), if_neg n59, hc, hd, if_neg (by decide), if_pos rfl]
        have em : mk b w e = if ru (isd b) w e ≤ e + 2 then 2 else 0 := by
          unfold mk
          rw [if_neg (by omega), hc, hd, if_neg (by decide), if_pos rfl]
        refine TL_num d1 (by omega) z10 z9 z12 ⟨fun q => h _ ⟨zf, z12, ?_, fun _ => ?_, fun _ => z11 q⟩, fun q => h _ ⟨fun a a1 a2 a3 a4 => (if_neg a2).trans (zf a a1 a2 a3 a4), z12, ?_, fun g => ?_, fun g => ?_⟩⟩
        · rw [em, if_pos q]
          exact z10
        · rw [ee]
          exact z9
        · rw [em, if_neg q]
          rfl
        · rw [em, if_neg q] at g
          exact absurd rfl g
        · rw [em, if_neg q] at g
          exact absurd g (by decide)
    · rw [if_neg hes] at y10
      have hl := hi (by omega)
      have n59 : ¬ b s = 59 := fun q => by
        unfold isl at hl
        rw [q] at hl
        cases hl
      have ee : ke b w s = e := by
        unfold ke
        rw [if_neg (by omega), if_neg n59, hl, if_pos rfl, ← hr, er]
      have em : mk b w s = 1 := by
        unfold mk
        rw [if_neg (by omega), hl, if_pos rfl]
      refine s5_figA hY he y9 (Or.inr y10) (TL_kind (Or.inl rfl) y10 (h Y ⟨y1, y12, ?_, fun _ => ?_, fun g => ?_⟩))
      · rw [em]
        exact y10
      · rw [ee]
        exact y9
      · rw [em] at g
        exact absurd g (by decide)
  intro n
  induction n with
  | zero =>
    intro e hse he h2 Y y1 y12 y11 y9 y10 hi hr
    have hY : TM Y b w := hM.re (y1 7 (by decide) (by decide) (by decide) (by decide)) (y1 8 (by decide) (by decide) (by decide) (by decide))
    have hc : (decide (e < w) && isl b e) = false := by rw [decide_eq_false (by omega), Bool.false_and]
    refine ⟨1, ?_⟩
    show w_X5_nextToken_L59 post K _ Y L
    unfold w_X5_nextToken_L59
    rw [y9]
    refine s5_byte hY (by omega) (s5_inr (lo := 97) (hi := 122) (fun e9 => (hY.2.2 e e9).2) (by decide) (by decide) ?_)
    rw [show (decide (97 ≤ b e) && decide (b e ≤ 122)) = isl b e from rfl, hc]
    exact b0 (fin e hse he hc Y y1 y12 y11 y9 y10 hi hr)
  | succ n ih =>
    intro e hse he h2 Y y1 y12 y11 y9 y10 hi hr
    have hY : TM Y b w := hM.re (y1 7 (by decide) (by decide) (by decide) (by decide)) (y1 8 (by decide) (by decide) (by decide) (by decide))
    cases hc : (decide (e < w) && isl b e)
    · refine ⟨1, ?_⟩
      show w_X5_nextToken_L59 post K _ Y L
      unfold w_X5_nextToken_L59
      rw [y9]
      refine s5_byte hY (by omega) (s5_inr (lo := 97) (hi := 122) (fun e9 => (hY.2.2 e e9).2) (by decide) (by decide) ?_)
      rw [show (decide (97 ≤ b e) && decide (b e ≤ 122)) = isl b e from rfl, hc]
      exact b0 (fin e hse he hc Y y1 y12 y11 y9 y10 hi hr)
    · obtain ⟨c1, c2⟩ := (Bool.and_eq_true _ _).mp hc
      have c1 : e < w := of_decide_eq_true c1
      obtain ⟨q, hq⟩ := ih (e + 1) (by omega) (by omega) (by omega) (mu (mu Y 10 0 1) 9 0 (nI (e + 1))) (fun a a1 a2 a3 a4 => (if_neg a1).trans ((if_neg a2).trans (y1 a a1 a2 a3 a4))) y12 y11 rfl (by rw [if_neg (by omega)]; rfl) (fun _ => by
        by_cases g : e = s
        · rw [← g]
          exact c2
        · exact hi (by omega)) (by rw [← hr, ru_yes c1 c2])
      refine ⟨q + 1, ?_⟩
      show w_X5_nextToken_L59 post K _ Y L
      unfold w_X5_nextToken_L59
      rw [y9]
      refine s5_byte hY (by omega) (s5_inr (lo := 97) (hi := 122) (fun e9 => (hY.2.2 e e9).2) (by decide) (by decide) ?_)
      rw [show (decide (97 ≤ b e) && decide (b e ≤ 122)) = isl b e from rfl, hc]
      refine b1 ?_
      rw [y10]
      refine bF (by split <;> decide) ?_
      rintro M59 rfl M60 rfl
      have e9 : mu Y 10 0 1 9 0 + 1 = nI (e + 1) := by
        show Y 9 0 + 1 = _
        rw [y9, nI_1]
      rw [e9]
      exact hq
theorem s5_next {M : ZI} {L : ZL} {b : Nat → Nat} {w e : Nat} (hM : TM M b w) (m9 : M 9 0 = nI e) (he : e ≤ w) {post : ZI → ZL → Prop} (h : ∀ Y : ZI, TK M Y b w (ts b w e) → post Y L) : w_X5_nextToken M L post := by
  unfold w_X5_nextToken
  have hw := hM.1
  obtain ⟨t1, t2⟩ := ts_le (b := b) he
  refine s5_skip hM (w - e) e he (Nat.le_refl _) M (fun _ _ => rfl) m9 (fun Z z1 z9 => ?_)
  generalize ts b w e = s at h z9 t1 t2
  rintro M7 rfl M8 rfl
  have hZ : TM Z b w := hM.re (z1 7 (by decide)) (z1 8 (by decide))
  show (¬ Z 9 0 = Z 8 0 → _) ∧ (Z 9 0 = Z 8 0 → _)
  rw [hZ.2.1, z9]
  refine ⟨fun q => ?_, fun q => ?_⟩
  · have q : ¬ s = w := fun e9 => q (by rw [e9])
    rintro M9 rfl
    exact s5_letters hM (by omega) h (w - s) s (Nat.le_refl _) t2 (Nat.le_refl _) _ (fun a a1 a2 a3 a4 => (if_neg a2).trans ((if_neg a3).trans ((if_neg a4).trans (z1 a a1)))) rfl rfl (show Z 9 0 = _ from z9) (by rw [if_pos rfl]; rfl) (fun g => absurd g (by omega)) rfl
  · have q : s = w := nI_ij (by omega) (by omega) q
    rintro M82 rfl
    have y9 : mu (mu (mu Z 12 0 (nI s)) 11 0 0) 10 0 3 9 0 = nI s := z9
    have hY : TM (mu (mu (mu Z 12 0 (nI s)) 11 0 0) 10 0 3) b w := hZ
    refine ⟨1, ?_⟩
    show w_X5_nextToken_L59 post _ _ (mu (mu (mu Z 12 0 (nI s)) 11 0 0) 10 0 3) L
    unfold w_X5_nextToken_L59
    rw [y9]
    refine s5_byte hY (by omega) (s5_inr (lo := 97) (hi := 122) (fun e9 => (hY.2.2 s e9).2) (by decide) (by decide) ?_)
    rw [decide_eq_false (show ¬ s < w by omega), Bool.false_and]
    refine b0 (s5_figA hY t2 y9 (Or.inl (by rw [decide_eq_false (show ¬ s < w by omega), Bool.false_and])) (show TL post _ L from TL_kind (k := 3) (Or.inr rfl) rfl (h _ ⟨fun a a1 a2 a3 a4 => (if_neg a2).trans ((if_neg a3).trans ((if_neg a4).trans (z1 a a1))), rfl, ?_, fun _ => ?_, fun g => ?_⟩)))
    · rw [show mk b w s = 3 by unfold mk; rw [if_pos (by omega)]]
      rfl
    · rw [show ke b w s = s by unfold ke; rw [if_pos (by omega)]]
      exact y9
    · rw [show mk b w s = 3 by unfold mk; rw [if_pos (by omega)]] at g
      exact absurd g (by decide)
