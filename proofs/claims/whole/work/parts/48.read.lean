/-! read: runs of bytes -/
def ruf (f : Nat → Bool) : Nat → Nat → Nat
  | 0, e => e
  | n + 1, e => if f e then ruf f n (e + 1) else e
def ru (f : Nat → Bool) (w e : Nat) : Nat := ruf f (w - e) e
theorem ru_out {f : Nat → Bool} {w e : Nat} (h : w ≤ e) : ru f w e = e := by
  unfold ru
  rw [show w - e = 0 by omega]
  rfl
theorem ru_at {f : Nat → Bool} {w e : Nat} (h : e < w) : ru f w e = if f e then ru f w (e + 1) else e := by
  unfold ru
  rw [show w - e = (w - (e + 1)) + 1 by omega]
  rfl
theorem ru_yes {f : Nat → Bool} {w e : Nat} (h : e < w) (hf : f e = true) : ru f w e = ru f w (e + 1) := by
  rw [ru_at h, hf, if_pos rfl]
theorem ru_no {f : Nat → Bool} {w e : Nat} (hf : e < w → f e = false) : ru f w e = e := by
  by_cases h : e < w
  · rw [ru_at h, hf h, if_neg (by decide)]
  · exact ru_out (by omega)
theorem ru_le {f : Nat → Bool} {w : Nat} : ∀ n e, w - e ≤ n → e ≤ ru f w e ∧ (e ≤ w → ru f w e ≤ w) := by
  intro n
  induction n with
  | zero =>
    intro e h
    rw [ru_out (by omega)]
    exact ⟨Nat.le_refl _, id⟩
  | succ n ih =>
    intro e h
    by_cases hw : e < w
    · rw [ru_at hw]
      split
      · have := ih (e + 1) (by omega)
        exact ⟨by omega, fun _ => this.2 (by omega)⟩
      · exact ⟨Nat.le_refl _, fun h => h⟩
    · rw [ru_out (by omega)]
      exact ⟨Nat.le_refl _, id⟩
/-- the class's bytes: b i below w -/
def TX (X : ZI) (b : Nat → Nat) (w : Nat) : Prop := w ≤ 150 ∧ X 1 0 = nI w ∧ ∀ i, i < w → X 0 i = nI (b i) ∧ b i ≤ 127
theorem s3_skip {X : ZI} {b : Nat → Nat} {w : Nat} (hX : TX X b w) {post : ZI → Prop} {K : ZI → Prop} : ∀ n s, s ≤ w → w - s ≤ n → ∀ Y : ZI, (∀ a, ¬ a = 2 → Y a = X a) → Y 2 0 = nI s → (∀ Z : ZI, (∀ a, ¬ a = 2 → Z a = X a) → Z 2 0 = nI (ru (fun i => decide (b i = 32)) w s) → K Z) → ∃ q, itF (w_X3_nextToken_L8 post K) (fun _ => False) q Y := by
  obtain ⟨hw, x1, xb⟩ := hX
  intro n
  induction n with
  | zero =>
    intro s h1 h2 Y y1 y2 h
    refine ⟨1, ?_⟩
    show w_X3_nextToken_L8 post K _ Y
    unfold w_X3_nextToken_L8
    rw [y1 1 (by decide), x1, y2]
    exact bT (nI_le (by omega) (by omega)) (h Y y1 (by rw [y2, ru_out (by omega)]))
  | succ n ih =>
    intro s h1 h2 Y y1 y2 h
    by_cases hs : s < w
    · obtain ⟨c1, c2⟩ := xb s hs
      by_cases hb : b s = 32
      · have e : ru (fun i => decide (b i = 32)) w s = ru (fun i => decide (b i = 32)) w (s + 1) := ru_yes hs (decide_eq_true hb)
        rw [e] at h
        obtain ⟨q, hq⟩ := ih (s + 1) (by omega) (by omega) (mu Y 2 0 (nI (s + 1))) (fun a ha => (if_neg ha).trans (y1 a ha)) rfl h
        refine ⟨q + 1, ?_⟩
        show w_X3_nextToken_L8 post K _ Y
        unfold w_X3_nextToken_L8
        rw [y1 1 (by decide), x1, y2, y1 0 (by decide), ncl (by omega), c1, hb, nI_1]
        refine bF (nI_ge hs (by omega)) ⟨in_ (by omega) (by decide), nT rfl ?_⟩
        rintro X2 rfl
        exact hq
      · refine ⟨1, ?_⟩
        show w_X3_nextToken_L8 post K _ Y
        unfold w_X3_nextToken_L8
        rw [y1 1 (by decide), x1, y2, y1 0 (by decide), ncl (by omega), c1]
        exact bF (nI_ge hs (by omega)) ⟨in_ (by omega) (by decide), nF (fun e => hb (nI_ij (b := 32) (by omega) (by decide) e)) (h Y y1 (by rw [y2, ru_no (fun _ => decide_eq_false hb)]))⟩
    · refine ⟨1, ?_⟩
      show w_X3_nextToken_L8 post K _ Y
      unfold w_X3_nextToken_L8
      rw [y1 1 (by decide), x1, y2]
      exact bT (nI_le (by omega) (by omega)) (h Y y1 (by rw [y2, ru_out (by omega)]))
