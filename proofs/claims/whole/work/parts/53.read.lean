/-- the law's bytes -/
def TM (M : ZI) (b : Nat → Nat) (w : Nat) : Prop := w ≤ 150 ∧ M 8 0 = nI w ∧ ∀ i, i < w → M 7 i = nI (b i) ∧ b i ≤ 127
theorem TM.re {X Y : ZI} {b : Nat → Nat} {w : Nat} (h : TM X b w) (h0 : Y 7 = X 7) (h1 : Y 8 = X 8) : TM Y b w := by
  unfold TM
  rw [h0, h1]
  exact h
def bv (b : Nat → Nat) (w e : Nat) : Int32 := if e < w then nI (b e) else -1
theorem s5_byte {M : ZI} {L : ZL} {b : Nat → Nat} {w e : Nat} (hM : TM M b w) (he : e ≤ 150) {post : Int32 → ZI → ZL → Prop} (h : post (bv b w e) M L) : w_X5_byteAt M L (nI e) post := by
  obtain ⟨hw, x1, xb⟩ := hM
  unfold w_X5_byteAt
  rw [x1]
  unfold bv at h
  by_cases h1 : e < w
  · rw [if_pos h1] at h
    rw [ncl (by omega), (xb e h1).1]
    exact bF (nI_ge h1 (by omega)) ⟨in_ (by omega) (by decide), h⟩
  · rw [if_neg h1] at h
    exact bT (nI_le (by omega) (by omega)) h
theorem bv_eq {b : Nat → Nat} {w e k : Nat} (hb : e < w → b e ≤ 127) (hk : k ≤ 127) : bv b w e = nI k ↔ (e < w ∧ b e = k) := by
  unfold bv
  by_cases h1 : e < w
  · rw [if_pos h1]
    have := hb h1
    exact ⟨fun q => ⟨h1, nI_ij (by omega) (by omega) q⟩, fun q => by rw [q.2]⟩
  · rw [if_neg h1]
    exact ⟨fun q => absurd q.symm (T_m1 k (by omega)), fun q => absurd q.1 h1⟩
theorem s5_inr {b : Nat → Nat} {w e lo hi : Nat} (hb : e < w → b e ≤ 127) (hlo : lo ≤ 127) (hhi : hi ≤ 127) {post : Int32 → Prop} (h : post (if decide (e < w) && (decide (lo ≤ b e) && decide (b e ≤ hi)) then 1 else 0)) : w_X5_in (bv b w e).toInt64 (lN lo) (lN hi) post := by
  refine s_in (by omega) (by omega) (fun v => ?_) (fun v => ?_)
  · obtain ⟨k, k1, k2, k3⟩ := v
    obtain ⟨h1, h2⟩ := (bv_eq hb (by omega)).mp k3
    rw [decide_eq_true h1, decide_eq_true (show lo ≤ b e by omega), decide_eq_true (show b e ≤ hi by omega)] at h
    exact h
  · by_cases h1 : e < w
    · have hn : ¬ (lo ≤ b e ∧ b e ≤ hi) := fun q => v ⟨b e, q.1, q.2, if_pos h1⟩
      rw [decide_eq_true h1, Bool.true_and] at h
      have e9 : (decide (lo ≤ b e) && decide (b e ≤ hi)) = false := by
        rw [Bool.eq_false_iff]
        intro q
        have q := (Bool.and_eq_true _ _).mp q
        exact hn ⟨of_decide_eq_true q.1, of_decide_eq_true q.2⟩
      rw [e9] at h
      exact h
    · rw [decide_eq_false h1, Bool.false_and] at h
      exact h
theorem s5_skip {M : ZI} {L : ZL} {b : Nat → Nat} {w : Nat} (hM : TM M b w) {post : ZI → ZL → Prop} {K : ZI → ZL → Prop} : ∀ n s, s ≤ w → w - s ≤ n → ∀ Y : ZI, (∀ a, ¬ a = 9 → Y a = M a) → Y 9 0 = nI s → (∀ Z : ZI, (∀ a, ¬ a = 9 → Z a = M a) → Z 9 0 = nI (ts b w s) → K Z L) → ∃ q, itF (w_X5_nextToken_L0 post K) (fun _ _ => False) q Y L := by
  have hw := hM.1
  intro n
  induction n with
  | zero =>
    intro s h1 h2 Y y1 y2 h
    refine ⟨1, ?_⟩
    show w_X5_nextToken_L0 post K _ Y L
    unfold w_X5_nextToken_L0
    have hY : TM Y b w := hM.re (y1 7 (by decide)) (y1 8 (by decide))
    rw [y2]
    refine s5_byte hY (by omega) (nF (fun q => ?_) (h Y y1 (by rw [y2, ts, ru_out (by omega)])))
    have := ((bv_eq (k := 32) (fun e => (hM.2.2 s e).2) (by decide)).mp q).1
    omega
  | succ n ih =>
    intro s h1 h2 Y y1 y2 h
    have hY : TM Y b w := hM.re (y1 7 (by decide)) (y1 8 (by decide))
    by_cases hs : s < w ∧ b s = 32
    · rw [show ts b w s = ts b w (s + 1) from ru_yes hs.1 (decide_eq_true hs.2)] at h
      obtain ⟨q, hq⟩ := ih (s + 1) (by omega) (by omega) (mu Y 9 0 (nI (s + 1))) (fun a ha => (if_neg ha).trans (y1 a ha)) rfl h
      refine ⟨q + 1, ?_⟩
      show w_X5_nextToken_L0 post K _ Y L
      unfold w_X5_nextToken_L0
      rw [y2]
      refine s5_byte hY (by omega) (nT ((bv_eq (k := 32) (fun e => (hM.2.2 s e).2) (by decide)).mpr hs) ?_)
      rw [y2, nI_1]
      rintro M4 rfl
      exact hq
    · refine ⟨1, ?_⟩
      show w_X5_nextToken_L0 post K _ Y L
      unfold w_X5_nextToken_L0
      rw [y2]
      refine s5_byte hY (by omega) (nF (fun q => hs ((bv_eq (k := 32) (fun e => (hM.2.2 s e).2) (by decide)).mp q)) (h Y y1 ?_))
      rw [y2, ts, ru_no (fun e => decide_eq_false (fun e2 => hs ⟨e, e2⟩))]
theorem s5_figA {Y : ZI} {L : ZL} {b : Nat → Nat} {w e : Nat} (hY : TM Y b w) (he : e ≤ w) (y9 : Y 9 0 = nI e) (hh : (decide (e < w) && isd b e) = false ∨ Y 10 0 = nI 1) {post : ZI → ZL → Prop} {K : ZI → ZL → Prop} (h : K Y L) : ∃ q, itF (w_X5_nextToken_L106 post K) (fun _ _ => False) q Y L := by
  have hw := hY.1
  refine ⟨1, ?_⟩
  show w_X5_nextToken_L106 post K _ Y L
  unfold w_X5_nextToken_L106
  rw [y9]
  refine s5_byte hY (by omega) (s5_inr (lo := 48) (hi := 57) (fun e9 => (hY.2.2 e e9).2) (by decide) (by decide) ?_)
  rw [show (decide (48 ≤ b e) && decide (b e ≤ 57)) = isd b e from rfl]
  rcases hh with hh | hh
  · rw [hh]
    exact b0 h
  · cases hc : (decide (e < w) && isd b e)
    · exact b0 h
    · refine b1 ?_
      rw [hh]
      exact bT rfl h
theorem s5_figB {M : ZI} {L : ZL} {b : Nat → Nat} {w s : Nat} (hM : TM M b w) {post : ZI → ZL → Prop} {K : ZI → ZL → Prop} : ∀ n e, s ≤ e → e ≤ w → w - e ≤ n → ∀ Y : ZI, (∀ a, ¬ a = 9 → ¬ a = 10 → ¬ a = 11 → Y a = M a) → Y 9 0 = nI e → Y 10 0 = nI (if e = s then 0 else 2) → (e ≤ s + 2 → Y 11 0 = nI (nv b s e)) → (∀ Z : ZI, (∀ a, ¬ a = 9 → ¬ a = 10 → ¬ a = 11 → Z a = M a) → Z 9 0 = nI (ru (isd b) w e) → Z 10 0 = nI (if ru (isd b) w e = s then 0 else 2) → (ru (isd b) w e ≤ s + 2 → Z 11 0 = nI (nv b s (ru (isd b) w e))) → K Z L) → ∃ q, itF (w_X5_nextToken_L106 post K) (fun _ _ => False) q Y L := by
  have hw := hM.1
  intro n
  induction n with
  | zero =>
    intro e hse h1 h2 Y y1 y9 y10 y11 h
    have hY : TM Y b w := hM.re (y1 7 (by decide) (by decide) (by decide)) (y1 8 (by decide) (by decide) (by decide))
    rw [ru_out (by omega)] at h
    exact s5_figA hY h1 y9 (Or.inl (by rw [decide_eq_false (by omega), Bool.false_and])) (h Y y1 y9 y10 y11)
  | succ n ih =>
    intro e hse h1 h2 Y y1 y9 y10 y11 h
    have hY : TM Y b w := hM.re (y1 7 (by decide) (by decide) (by decide)) (y1 8 (by decide) (by decide) (by decide))
    cases hc : (decide (e < w) && isd b e)
    · rw [ru_no (fun e9 => by rw [decide_eq_true e9, Bool.true_and] at hc; exact hc)] at h
      exact s5_figA hY h1 y9 (Or.inl hc) (h Y y1 y9 y10 y11)
    · obtain ⟨he, hd⟩ := (Bool.and_eq_true _ _).mp hc
      have he : e < w := of_decide_eq_true he
      rw [ru_yes he hd] at h
      obtain ⟨c1, c2⟩ := hY.2.2 e he
      have nx2 : ∀ x : Int32, (e + 1 ≤ s + 2 → x = nI (nv b s (e + 1))) → ∃ q, itF (w_X5_nextToken_L106 post K) (fun _ _ => False) q (mu (mu (mu Y 10 0 2) 11 0 x) 9 0 (nI (e + 1))) L := by
        intro x hx
        refine ih (e + 1) (by omega) (by omega) (by omega) _ (fun a a1 a2 a3 => (if_neg a1).trans ((if_neg a3).trans ((if_neg a2).trans (y1 a a1 a2 a3)))) rfl ?_ hx h
        rw [if_neg (by omega)]
        rfl
      have hv : e + 1 ≤ s + 2 → Y 11 0 ≤ 99 := by
        intro g
        rw [y11 (by omega)]
        refine nI_le (b := 99) ?_ (by decide)
        unfold nv
        split
        · decide
        · split
          · rename_i _ e5
            have := hY.2.2 s (by omega)
            have d5 : isd b s = true ∨ True := Or.inr trivial
            omega
          · omega
      by_cases hy : Y 11 0 ≤ 99
      · obtain ⟨q, hq⟩ := nx2 ((10 * Y 11 0 + nI (b e)) - 48) (fun g => by rw [y11 (by omega)]; exact nv_step hse g hd)
        refine ⟨q + 1, ?_⟩
        show w_X5_nextToken_L106 post K _ Y L
        unfold w_X5_nextToken_L106
        rw [y9]
        refine s5_byte hY (by omega) (s5_inr (lo := 48) (hi := 57) (fun e9 => (hY.2.2 e e9).2) (by decide) (by decide) ?_)
        rw [show (decide (48 ≤ b e) && decide (b e ≤ 57)) = isd b e from rfl, hc]
        refine b1 ?_
        rw [y10]
        refine bF (by split <;> decide) ?_
        rintro M18 rfl
        refine bT hy ?_
        rw [show mu Y 10 0 2 9 0 = nI e from y9, show ∀ j, mu Y 10 0 2 7 j = Y 7 j from fun j => rfl, ncl (by omega), c1]
        refine ⟨in_ (by omega) (by decide), ?_⟩
        rintro M19 rfl M20 rfl
        have e9 : (mu (mu Y 10 0 2) 11 0 (10 * mu Y 10 0 2 11 0 + nI (b e) - 48)) 9 0 + 1 = nI (e + 1) := by
          show Y 9 0 + 1 = _
          rw [y9, nI_1]
        rw [e9]
        exact hq
      · obtain ⟨q, hq⟩ := nx2 (Y 11 0) (fun g => absurd (hv g) hy)
        refine ⟨q + 1, ?_⟩
        show w_X5_nextToken_L106 post K _ Y L
        unfold w_X5_nextToken_L106
        rw [y9]
        refine s5_byte hY (by omega) (s5_inr (lo := 48) (hi := 57) (fun e9 => (hY.2.2 e e9).2) (by decide) (by decide) ?_)
        rw [show (decide (48 ≤ b e) && decide (b e ≤ 57)) = isd b e from rfl, hc]
        refine b1 ?_
        rw [y10]
        refine bF (by split <;> decide) ?_
        rintro M18 rfl
        refine bF hy ?_
        rintro M19 rfl M20 rfl
        have e9 : (mu (mu Y 10 0 2) 11 0 (mu Y 10 0 2 11 0)) 9 0 + 1 = nI (e + 1) := by
          show Y 9 0 + 1 = _
          rw [y9, nI_1]
        rw [e9]
        exact hq
