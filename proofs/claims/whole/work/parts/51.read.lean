def nv (b : Nat → Nat) (s e : Nat) : Nat := if e = s then 0 else if e = s + 1 then b s - 48 else 10 * (b s - 48) + (b (s + 1) - 48)
theorem nv_step {b : Nat → Nat} {s e : Nat} (h1 : s ≤ e) (h2 : e + 1 ≤ s + 2) (hd : isd b e = true) : (10 * nI (nv b s e) + nI (b e)) - 48 = nI (nv b s (e + 1)) := by
  have hd : 48 ≤ b e := of_decide_eq_true ((Bool.and_eq_true _ _).mp hd).1
  rw [show (10 : Int32) * nI (nv b s e) + nI (b e) = nI (10 * nv b s e + b e) from mc 10 _ _, show (48 : Int32) = nI 48 from rfl, nsub (by omega)]
  congr 1
  unfold nv
  rcases (show e = s ∨ e = s + 1 by omega) with rfl | rfl
  · rw [if_pos rfl, if_neg (by omega), if_pos rfl]
    omega
  · rw [if_neg (by omega), if_pos rfl, if_neg (by omega), if_neg (by omega)]
    omega
theorem s3_figures {X : ZI} {b : Nat → Nat} {w s : Nat} (hX : TX X b w) {post : ZI → Prop} {K : ZI → Prop} : ∀ n e, s ≤ e → e ≤ w → w - e ≤ n → ∀ Y : ZI, (∀ a, ¬ a = 3 → ¬ a = 5 → Y a = X a) → Y 3 0 = nI e → (e ≤ s + 2 → Y 5 0 = nI (nv b s e)) → (∀ Z : ZI, (∀ a, ¬ a = 3 → ¬ a = 5 → Z a = X a) → Z 3 0 = nI (ru (isd b) w e) → (ru (isd b) w e ≤ s + 2 → Z 5 0 = nI (nv b s (ru (isd b) w e))) → K Z) → ∃ q, itF (w_X3_takeNumber_L5 post K) (fun _ => False) q Y := by
  have hw := hX.1
  have x1 := hX.2.1
  intro n
  induction n with
  | zero =>
    intro e hse h1 h2 Y y1 y2 y3 h
    refine ⟨1, ?_⟩
    show w_X3_takeNumber_L5 post K _ Y
    unfold w_X3_takeNumber_L5
    rw [y1 1 (by decide) (by decide), x1, y2]
    rw [ru_out (by omega)] at h
    exact bT (nI_le (by omega) (by omega)) (h Y y1 y2 y3)
  | succ n ih =>
    intro e hse h1 h2 Y y1 y2 y3 h
    by_cases hs : e < w
    · have hY : TX Y b w := hX.re (y1 0 (by decide) (by decide)) (y1 1 (by decide) (by decide))
      cases hb : isd b e
      · refine ⟨1, ?_⟩
        show w_X3_takeNumber_L5 post K _ Y
        unfold w_X3_takeNumber_L5
        rw [y1 1 (by decide) (by decide), x1, y2]
        rw [ru_no (fun _ => hb)] at h
        refine bF (nI_ge hs (by omega)) (s3_within (lo := 48) (hi := 57) hY (by omega) (by decide) (by decide) ?_)
        rw [show (decide (48 ≤ b e) && decide (b e ≤ 57)) = isd b e from rfl, hb, Bool.and_false]
        exact b0 (h Y y1 y2 y3)
      · rw [ru_yes hs hb] at h
        obtain ⟨c1, c2⟩ := hX.2.2 e hs
        have y0 : Y 0 e = nI (b e) := (congrFun (y1 0 (by decide) (by decide)) e).trans c1
        obtain ⟨q, hq⟩ := ih (e + 1) (by omega) (by omega) (by omega) (mu (mu Y 5 0 ((10 * Y 5 0 + nI (b e)) - 48)) 3 0 (nI (e + 1))) (fun a ha hb => (if_neg ha).trans ((if_neg hb).trans (y1 a ha hb))) rfl (fun g => by
          show (10 * Y 5 0 + nI (b e)) - 48 = _
          rw [y3 (by omega)]
          exact nv_step hse g hb) h
        refine ⟨q + 1, ?_⟩
        show w_X3_takeNumber_L5 post K _ Y
        unfold w_X3_takeNumber_L5
        rw [y1 1 (by decide) (by decide), x1, y2]
        refine bF (nI_ge hs (by omega)) (s3_within (lo := 48) (hi := 57) hY (by omega) (by decide) (by decide) ?_)
        rw [show (decide (48 ≤ b e) && decide (b e ≤ 57)) = isd b e from rfl, hb, decide_eq_true hs]
        refine b1 ?_
        rw [y2, ncl (by omega), y0]
        refine ⟨in_ (by omega) (by decide), ?_⟩
        rintro X2 rfl X3 rfl
        have e9 : (mu Y 5 0 (10 * Y 5 0 + nI (b e) - 48)) 3 0 + 1 = nI (e + 1) := by
          show Y 3 0 + 1 = _
          rw [y2, nI_1]
        rw [e9]
        exact hq
    · refine ⟨1, ?_⟩
      show w_X3_takeNumber_L5 post K _ Y
      unfold w_X3_takeNumber_L5
      rw [y1 1 (by decide) (by decide), x1, y2]
      rw [ru_out (by omega)] at h
      exact bT (nI_le (by omega) (by omega)) (h Y y1 y2 y3)
theorem s3_takeNumber {X : ZI} {b : Nat → Nat} {w s : Nat} (hX : TX X b w) (x2 : X 2 0 = nI s) (x3 : X 3 0 = nI s) (hs : s ≤ w) {post : ZI → Prop} (h : ∀ Y : ZI, Y 0 = X 0 → Y 1 = X 1 → Y 6 = X 6 → Y 2 0 = nI s → Y 3 0 = nI (ru (isd b) w s) → (ru (isd b) w s ≤ s + 2 → Y 4 0 = nI 2 ∧ Y 5 0 = nI (nv b s (ru (isd b) w s))) → (¬ ru (isd b) w s ≤ s + 2 → Y 4 0 = nI 4) → post Y) : w_X3_takeNumber X post := by
  unfold w_X3_takeNumber
  rintro X1 rfl
  obtain ⟨r1, r2⟩ := ru_le (f := isd b) (w := w) (w - s) s (Nat.le_refl _)
  have r2 := r2 hs
  have hw := hX.1
  refine s3_figures (X := X) hX (w - s) s (Nat.le_refl _) hs (Nat.le_refl _) (mu X 5 0 0) (fun a _ ha => if_neg ha) x3 (fun _ => by rw [nv, if_pos rfl]; rfl) (fun Z z1 z2 z3 => ?_)
  have y2 : Z 2 0 = nI s := (congrFun (z1 2 (by decide) (by decide)) 0).trans x2
  show (2 < Z 3 0 - Z 2 0 → _) ∧ (¬ 2 < Z 3 0 - Z 2 0 → _)
  rw [z2, y2, nsub r1]
  refine ⟨fun q => ?_, fun q => ?_⟩
  · have q := (nI_ltI (a := 2) (by decide) (by omega)).mp q
    rintro X7 rfl
    exact h _ (z1 0 (by decide) (by decide)) (z1 1 (by decide) (by decide)) (z1 6 (by decide) (by decide)) y2 z2 (fun g => absurd g (by omega)) (fun _ => rfl)
  · have q : ¬ 2 < ru (isd b) w s - s := fun e9 => q ((nI_ltI (a := 2) (by decide) (by omega)).mpr e9)
    rintro X7 rfl
    exact h _ (z1 0 (by decide) (by decide)) (z1 1 (by decide) (by decide)) (z1 6 (by decide) (by decide)) y2 z2 (fun g => ⟨rfl, z3 g⟩) (fun g => absurd (show ru (isd b) w s ≤ s + 2 by omega) g)
