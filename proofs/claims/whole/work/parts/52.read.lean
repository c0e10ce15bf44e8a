def ts (b : Nat → Nat) (w e : Nat) : Nat := ru (fun i => decide (b i = 32)) w e
def kk (b : Nat → Nat) (w s : Nat) : Nat := if w ≤ s then 0 else if b s = 59 then 3 else if isl b s then (if wd b s (ru (isl b) w s) < 3 then 1 else 4) else if isd b s then (if ru (isd b) w s ≤ s + 2 then 2 else 4) else 4
def ke (b : Nat → Nat) (w s : Nat) : Nat := if w ≤ s then s else if b s = 59 then s + 1 else if isl b s then ru (isl b) w s else if isd b s then ru (isd b) w s else s
def kv (b : Nat → Nat) (w s : Nat) : Nat := if isl b s then wd b s (ru (isl b) w s) else nv b s (ru (isd b) w s)
theorem ts_le {b : Nat → Nat} {w e : Nat} (h : e ≤ w) : e ≤ ts b w e ∧ ts b w e ≤ w := by
  obtain ⟨r1, r2⟩ := ru_le (f := fun i => decide (b i = 32)) (w := w) (w - e) e (Nat.le_refl _)
  exact ⟨r1, r2 h⟩
theorem ke_le {b : Nat → Nat} {w s : Nat} (h : s ≤ w) : s ≤ ke b w s ∧ ke b w s ≤ w := by
  obtain ⟨l1, l2⟩ := ru_le (f := isl b) (w := w) (w - s) s (Nat.le_refl _)
  obtain ⟨d1, d2⟩ := ru_le (f := isd b) (w := w) (w - s) s (Nat.le_refl _)
  have l2 := l2 h
  have d2 := d2 h
  unfold ke
  split
  · omega
  · split
    · omega
    · split
      · omega
      · split <;> omega
theorem s3_next {X : ZI} {b : Nat → Nat} {w e : Nat} (hX : TX X b w) (x3 : X 3 0 = nI e) (he : e ≤ w) {post : ZI → Prop} (h : ∀ Y : ZI, Y 0 = X 0 → Y 1 = X 1 → Y 6 = X 6 → Y 2 0 = nI (ts b w e) → Y 3 0 = nI (ke b w (ts b w e)) → Y 4 0 = nI (kk b w (ts b w e)) → (kk b w (ts b w e) = 1 ∨ kk b w (ts b w e) = 2 → Y 5 0 = nI (kv b w (ts b w e))) → post Y) : w_X3_nextToken X post := by
  unfold w_X3_nextToken
  rintro X1 rfl
  have hw := hX.1
  obtain ⟨t1, t2⟩ := ts_le (b := b) he
  refine s3_skip (X := X) hX (w - e) e he (Nat.le_refl _) (mu X 2 0 (X 3 0)) (fun a ha => if_neg ha) x3 (fun Z z1 z2 => ?_)
  rintro X4 rfl
  have z2 : Z 2 0 = nI (ts b w e) := z2
  generalize ts b w e = s at h z2 t1 t2
  have hZ : TX (mu Z 3 0 (Z 2 0)) b w := hX.re (z1 0 (by decide)) (z1 1 (by decide))
  have y1 : mu Z 3 0 (Z 2 0) 1 0 = nI w := hZ.2.1
  have y2 : mu Z 3 0 (Z 2 0) 2 0 = nI s := z2
  have y3 : mu Z 3 0 (Z 2 0) 3 0 = nI s := z2
  rw [y1, y2]
  by_cases hs : s < w
  · obtain ⟨c1, c2⟩ := hZ.2.2 s hs
    refine bT (nI_lt hs (by omega)) ⟨in_ (by omega) (by decide), ?_⟩
    rw [ncl (by omega), c1]
    refine ⟨fun q => ?_, fun q => ?_⟩
    · have q : ¬ b s = 59 := fun e9 => q (by rw [e9]; rfl)
      refine s3_within (lo := 97) (hi := 122) hZ (by omega) (by decide) (by decide) ?_
      rw [show (decide (97 ≤ b s) && decide (b s ≤ 122)) = isl b s from rfl, decide_eq_true hs, Bool.true_and]
      cases hl : isl b s
      · refine b0 ?_
        rw [y2]
        refine s3_within (lo := 48) (hi := 57) hZ (by omega) (by decide) (by decide) ?_
        rw [show (decide (48 ≤ b s) && decide (b s ≤ 57)) = isd b s from rfl, decide_eq_true hs, Bool.true_and]
        cases hd : isd b s
        · refine b0 ?_
          have e1 : kk b w s = 4 := by
            unfold kk
            rw [if_neg (by omega), if_neg q, hl, hd]
            rfl
          have e2 : ke b w s = s := by
            unfold ke
            rw [if_neg (by omega), if_neg q, hl, hd]
            rfl
          rw [e1, e2] at h
          rintro X9 rfl
          exact h _ (z1 0 (by decide)) (z1 1 (by decide)) (z1 6 (by decide)) y2 y3 rfl (fun g => absurd g (by decide))
        · refine b1 (s3_takeNumber hZ y2 y3 t2 (fun Y u0 u1 u6 u2 u3 u4 u5 => ?_))
          have e2 : ke b w s = ru (isd b) w s := by
            unfold ke
            rw [if_neg (by omega), if_neg q, hl, hd]
            rfl
          have e3 : kv b w s = nv b s (ru (isd b) w s) := by
            unfold kv
            rw [hl]
            rfl
          have e1 : kk b w s = if ru (isd b) w s ≤ s + 2 then 2 else 4 := by
            unfold kk
            rw [if_neg (by omega), if_neg q, hl, hd]
            rfl
          rw [e2, e3, e1] at h
          by_cases g : ru (isd b) w s ≤ s + 2
          · rw [if_pos g] at h
            exact h Y (u0.trans (z1 0 (by decide))) (u1.trans (z1 1 (by decide))) (u6.trans (z1 6 (by decide))) u2 u3 (u4 g).1 (fun _ => (u4 g).2)
          · rw [if_neg g] at h
            exact h Y (u0.trans (z1 0 (by decide))) (u1.trans (z1 1 (by decide))) (u6.trans (z1 6 (by decide))) u2 u3 (u5 g) (fun g => absurd g (by decide))
      · refine b1 (s3_takeWord hZ y2 y3 t2 (fun Y u0 u1 u6 u2 u3 u4 u5 => ?_))
        have e2 : ke b w s = ru (isl b) w s := by
          unfold ke
          rw [if_neg (by omega), if_neg q, hl]
          rfl
        have e3 : kv b w s = wd b s (ru (isl b) w s) := by
          unfold kv
          rw [hl]
          rfl
        have e1 : kk b w s = if wd b s (ru (isl b) w s) < 3 then 1 else 4 := by
          unfold kk
          rw [if_neg (by omega), if_neg q, hl]
          rfl
        rw [e2, e3, e1] at h
        by_cases g : wd b s (ru (isl b) w s) < 3
        · rw [if_pos g] at h
          exact h Y (u0.trans (z1 0 (by decide))) (u1.trans (z1 1 (by decide))) (u6.trans (z1 6 (by decide))) u2 u3 (u4 g).1 (fun _ => (u4 g).2)
        · rw [if_neg g] at h
          exact h Y (u0.trans (z1 0 (by decide))) (u1.trans (z1 1 (by decide))) (u6.trans (z1 6 (by decide))) u2 u3 (u5 g) (fun g => absurd g (by decide))
    · have q : b s = 59 := nI_ij (b := 59) (by omega) (by decide) q
      have e1 : kk b w s = 3 := by
        unfold kk
        rw [if_neg (by omega), if_pos q]
      have e2 : ke b w s = s + 1 := by
        unfold ke
        rw [if_neg (by omega), if_pos q]
      rw [e1, e2] at h
      rintro X12 rfl X13 rfl
      refine h _ (z1 0 (by decide)) (z1 1 (by decide)) (z1 6 (by decide)) y2 ?_ rfl (fun g => absurd g (by decide))
      show Z 2 0 + 1 = _
      rw [z2, nI_1]
  · have e1 : kk b w s = 0 := by
      unfold kk
      rw [if_pos (by omega)]
    have e2 : ke b w s = s := by
      unfold ke
      rw [if_pos (by omega)]
    rw [e1, e2] at h
    refine bF (nI_nlt (by omega) (by omega)) ?_
    rintro X14 rfl
    exact h _ (z1 0 (by decide)) (z1 1 (by decide)) (z1 6 (by decide)) y2 y3 rfl (fun g => absurd g (by decide))
