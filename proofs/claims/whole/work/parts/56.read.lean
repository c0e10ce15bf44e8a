/-! read: an item, in the class -/
def jz (b : Nat → Nat) (w v e : Nat) : Option Nat := match fN b w v e (lml v) 0 with
  | some f => some f
  | none => if kk b w (tN b w e (lml v)) = 3 then none else some (tN b w e (lml v))
theorem jz_some {b : Nat → Nat} {w v e s : Nat} (h : fN b w v e (lml v) 0 = some s) : jz b w v e = some s := by
  simp only [jz, h]
theorem jz_none {b : Nat → Nat} {w v e : Nat} (h : fN b w v e (lml v) 0 = none) : jz b w v e = if kk b w (tN b w e (lml v)) = 3 then none else some (tN b w e (lml v)) := by
  simp only [jz, h]
theorem jz_ok {b : Nat → Nat} {w v e : Nat} (h : jz b w v e = none) : fN b w v e (lml v) 0 = none ∧ kk b w (tN b w e (lml v)) = 3 := by
  cases hf : fN b w v e (lml v) 0 with
  | some s =>
    rw [jz_some hf] at h
    cases h
  | none =>
    rw [jz_none hf] at h
    refine ⟨rfl, ?_⟩
    by_cases g : kk b w (tN b w e (lml v)) = 3
    · exact g
    · rw [if_neg g] at h
      cases h
theorem s3_nm {X T : ZI} {b : Nat → Nat} {w v e : Nat} (hX : TX X b w) (x3 : X 3 0 = nI e) (he : e ≤ w) (hv : v < 3) {post : Int32 → ZI → ZI → Prop} {G : ZI → Prop} (hf : ∀ s Y, jz b w v e = some s → TX Y b w → post ((-10) - nI s) Y T) (hk : jz b w v e = none → ∀ Y, TX Y b w → Y 3 0 = nI (eN b w e (lml v + 1)) → (∀ j, j < lml v → Y 6 j = nI (kv b w (tN b w e j))) → G Y) : w_X3_numbersStand X v (fun r5 X6 => ((¬ r5 = 0 → w_X3_nextToken X6  (fun X7 => (((X7 4 0) = 3 → G X7) ∧ (¬ (X7 4 0) = 3 → post ((-10) - (X7 2 0)) X7 T)))) ∧ (r5 = 0 → post ((-10) - (X6 2 0)) X6 T))) := by
  unfold w_X3_numbersStand
  refine ⟨lml v + 1, s3_nums he hv (fun s Y f hY y2 => ?_) (fun f Y hY y3 y6 => ?_) (lml v) 0 (Nat.zero_add _) rfl X hX x3 (fun j hj => absurd hj (Nat.not_lt_zero _))⟩
  · refine b0n ?_
    rw [y2]
    exact hf s Y (jz_some f) hY
  · refine b1n (s3_next hY y3 (eN_le he _).2 (fun Z z0 z1 z6 z2 z3 z4 z5 => ?_))
    have z2 : Z 2 0 = nI (tN b w e (lml v)) := z2
    have z4 : Z 4 0 = nI (kk b w (tN b w e (lml v))) := z4
    rw [z4, z2]
    have hj := jz_none f
    by_cases g : kk b w (tN b w e (lml v)) = 3
    · rw [if_pos g] at hj
      rw [g]
      refine bT rfl (hk hj Z (hY.re z0 z1) z3 (fun j hj => ?_))
      rw [z6]
      exact y6 j hj
    · rw [if_neg g] at hj
      exact bF (fun q => g (nI_ij (b := 3) (Nat.lt_of_le_of_lt (kk_le b w _) (by decide)) (by decide) q)) (hf _ Z hj (hY.re z0 z1))
theorem kk1 {b : Nat → Nat} {w s : Nat} (h : kk b w s = 1) : s < w ∧ isl b s = true ∧ ¬ b s = 59 ∧ kv b w s < 3 := by
  unfold kk at h
  by_cases h1 : w ≤ s
  · rw [if_pos h1] at h
    cases h
  · rw [if_neg h1] at h
    by_cases h2 : b s = 59
    · rw [if_pos h2] at h
      cases h
    · rw [if_neg h2] at h
      cases hl : isl b s
      · rw [hl, if_neg (by decide)] at h
        split at h
        · split at h <;> cases h
        · cases h
      · rw [hl, if_pos rfl] at h
        by_cases h3 : wd b s (ru (isl b) w s) < 3
        · refine ⟨by omega, rfl, h2, ?_⟩
          unfold kv
          rw [hl, if_pos rfl]
          exact h3
        · rw [if_neg h3] at h
          cases h
theorem ke1 {b : Nat → Nat} {w s : Nat} (h : kk b w s = 1) : s < ke b w s := by
  obtain ⟨h1, h2, h3, -⟩ := kk1 h
  unfold ke
  rw [if_neg (by omega), if_neg h3, h2, if_pos rfl, ru_yes h1 h2]
  exact (ru_le (f := isl b) (w := w) (w - (s + 1)) (s + 1) (Nat.le_refl _)).1
def iz (b : Nat → Nat) (w e y : Nat) : Option Nat := if kk b w (ts b w e) = 1 ∧ (kv b w (ts b w e) = 0 ↔ y = 0) then jz b w (kv b w (ts b w e)) (ke b w (ts b w e)) else some (ts b w e)
def ie (b : Nat → Nat) (w e : Nat) : Nat := eN b w (ke b w (ts b w e)) (lml (kv b w (ts b w e)) + 1)
theorem iz_ok {b : Nat → Nat} {w e y : Nat} (h : iz b w e y = none) : kk b w (ts b w e) = 1 ∧ (kv b w (ts b w e) = 0 ↔ y = 0) ∧ jz b w (kv b w (ts b w e)) (ke b w (ts b w e)) = none := by
  unfold iz at h
  by_cases g : kk b w (ts b w e) = 1 ∧ (kv b w (ts b w e) = 0 ↔ y = 0)
  · rw [if_pos g] at h
    exact ⟨g.1, g.2, h⟩
  · rw [if_neg g] at h
    cases h
theorem ie_gt {b : Nat → Nat} {w e y : Nat} (he : e ≤ w) (h : iz b w e y = none) : e < ie b w e ∧ ie b w e ≤ w := by
  obtain ⟨h1, -⟩ := iz_ok h
  obtain ⟨t1, t2⟩ := ts_le (b := b) he
  have k1 := ke1 h1
  obtain ⟨l1, l2⟩ := eN_le (b := b) (ke_le (b := b) t2).2 (lml (kv b w (ts b w e)) + 1)
  unfold ie
  exact ⟨by omega, l2⟩
/-- what stands behind an item's word -/
def nmv (b : Nat → Nat) (w e j : Nat) : Nat := kv b w (tN b w (ke b w (ts b w e)) j)
theorem s3_body {b : Nat → Nat} {w e y : Nat} (he : e ≤ w) (hy : y ≤ e) {X T : ZI} (hX : TX X b w) (x3 : X 3 0 = nI e) {post : Int32 → ZI → ZI → Prop} {K rec : ZI → ZI → Int32 → Int32 → Prop} (hend : kk b w (ts b w e) = 0 → 0 < y → ∀ Y, TX Y b w → post (nI y) Y T) (hf : ¬ (kk b w (ts b w e) = 0 ∧ 0 < y) → ∀ s Y, iz b w e y = some s → TX Y b w → post ((-10) - nI s) Y T) (hk : iz b w e y = none → ∀ Y, TX Y b w → Y 3 0 = nI (ie b w e) → (∀ j, j < lml (kv b w (ts b w e)) → Y 6 j = nI (nmv b w e j)) → w_X3_putItem Y T (nI (kv b w (ts b w e))) (fun X8 T9 => rec X8 T9 (nI (y + 1)) (nI (y + 1)))) : w_X3_readInto_L9 post K rec X T (nI y) (nI y) := by
  have hw := hX.1
  unfold w_X3_readInto_L9
  refine bF (nI_nlt (a := 150) (b := y) (by omega) (by decide)) (s3_next hX x3 he (fun Y y0 y1 y6 y2 y3 y4 y5 => ?_))
  have hY := hX.re y0 y1
  obtain ⟨t1, t2⟩ := ts_le (b := b) he
  obtain ⟨k1, k2⟩ := ke_le (b := b) t2
  rw [y4, y2]
  by_cases g0 : kk b w (ts b w e) = 0
  · rw [g0]
    refine nT rfl ?_
    by_cases hy0 : y = 0
    · subst hy0
      refine bT (by decide) ?_
      rintro v rfl
      exact nF (by decide) (hf (fun q => absurd q.2 (Nat.lt_irrefl 0)) _ Y (if_neg (fun q => by rw [g0] at q; exact absurd q.1 (by decide))) hY)
    · exact bF (nI_nle (by omega) (by omega)) (hend g0 (by omega) Y hY)
  · have kb : kk b w (ts b w e) < 2 ^ 31 := Nat.lt_of_le_of_lt (kk_le b w _) (by decide)
    have hf := hf (fun q => g0 q.1)
    refine nF (nI_ne0 (by omega) kb) ?_
    rintro v rfl
    by_cases g1 : kk b w (ts b w e) = 1
    · rw [y5 (Or.inl g1)]
      obtain ⟨-, -, -, hv⟩ := kk1 g1
      obtain ⟨-, -, l3⟩ := T_lml _ hv
      have hf' : ∀ s Z, jz b w (kv b w (ts b w e)) (ke b w (ts b w e)) = some s → (kv b w (ts b w e) = 0 ↔ y = 0) → TX Z b w → post ((-10) - nI s) Z T := fun s Z q1 q2 q3 => hf s Z ((if_pos ⟨g1, q2⟩).trans q1) q3
      have hk' : jz b w (kv b w (ts b w e)) (ke b w (ts b w e)) = none → (kv b w (ts b w e) = 0 ↔ y = 0) → _ := fun q1 q2 => hk ((if_pos ⟨g1, q2⟩).trans q1)
      refine nT (by rw [g1]; rfl) ?_
      by_cases v0 : kv b w (ts b w e) = 0
      · refine nT (by rw [v0]; rfl) ?_
        by_cases hy0 : y = 0
        · refine nT (by rw [hy0]; rfl) ?_
          rintro k rfl
          rw [l3, nI_1]
          exact s3_nm hY y3 k2 hv (fun s Z q1 q2 => hf' s Z q1 ⟨fun _ => hy0, fun _ => v0⟩ q2) (fun q1 Z q2 q3 q4 => hk' q1 ⟨fun _ => hy0, fun _ => v0⟩ Z q2 q3 q4)
        · exact nF (nI_ne0 (by omega) (by omega)) (hf _ Y (if_neg (fun q => hy0 (q.2.mp v0))) hY)
      · refine nF (nI_ne0 (by omega) (by omega)) ?_
        by_cases hy0 : y = 0
        · exact nT (by rw [hy0]; rfl) (hf _ Y (if_neg (fun q => v0 (q.2.mpr hy0))) hY)
        · refine nF (nI_ne0 (by omega) (by omega)) ?_
          rintro k rfl
          rw [l3, nI_1]
          exact s3_nm hY y3 k2 hv (fun s Z q1 q2 => hf' s Z q1 ⟨fun q => absurd q v0, fun q => absurd q hy0⟩ q2) (fun q1 Z q2 q3 q4 => hk' q1 ⟨fun q => absurd q v0, fun q => absurd q hy0⟩ Z q2 q3 q4)
    · exact nF (fun q => g1 (nI_ij (b := 1) kb (by decide) q)) (hf _ Y (if_neg (fun q => g1 q.1)) hY)
/-- where the text goes wrong, n items at most -/
def rz (b : Nat → Nat) (w : Nat) : Nat → Nat → Nat → Option Nat
  | 0, _, _ => none
  | n + 1, e, y => if kk b w (ts b w e) = 0 ∧ 0 < y then none else match iz b w e y with
    | some f => some f
    | none => rz b w n (ie b w e) (y + 1)
theorem rz_some {b : Nat → Nat} {w n e y s : Nat} (h0 : ¬ (kk b w (ts b w e) = 0 ∧ 0 < y)) (h : iz b w e y = some s) : rz b w (n + 1) e y = some s := by
  simp only [rz, h, if_neg h0]
theorem rz_none {b : Nat → Nat} {w n e y : Nat} (h0 : ¬ (kk b w (ts b w e) = 0 ∧ 0 < y)) (h : iz b w e y = none) : rz b w (n + 1) e y = rz b w n (ie b w e) (y + 1) := by
  simp only [rz, h, if_neg h0]
theorem rz_end {b : Nat → Nat} {w n e y : Nat} (h0 : kk b w (ts b w e) = 0 ∧ 0 < y) : rz b w (n + 1) e y = none := by
  simp only [rz, if_pos h0]
theorem iz_n0 {b : Nat → Nat} {w e y : Nat} (h : iz b w e y = none) : ¬ (kk b w (ts b w e) = 0 ∧ 0 < y) := by
  rintro ⟨q, -⟩
  rw [(iz_ok h).1] at q
  cases q
theorem s3_loop {b : Nat → Nat} {w : Nat} {o : Option Nat} {R : Nat → Nat → ZI → Prop} (hR : ∀ e y T, e ≤ w → y ≤ e → R e y T → iz b w e y = none → ∀ Y post, TX Y b w → (∀ j, j < lml (kv b w (ts b w e)) → Y 6 j = nI (nmv b w e j)) → (∀ T', R (ie b w e) (y + 1) T' → post Y T') → w_X3_putItem Y T (nI (kv b w (ts b w e))) post) {post : Int32 → ZI → ZI → Prop} {K : ZI → ZI → Int32 → Int32 → Prop} (hf : ∀ s Y T, o = some s → TX Y b w → post ((-10) - nI s) Y T) (hk : o = none → ∀ e y, e ≤ w → y ≤ e → kk b w (ts b w e) = 0 → 0 < y → ∀ Y T, TX Y b w → R e y T → post (nI y) Y T) : ∀ n e y, w - e ≤ n → e ≤ w → y ≤ e → rz b w (n + 1) e y = o → ∀ X T, TX X b w → X 3 0 = nI e → R e y T → itF (w_X3_readInto_L9 post K) (fun _ _ _ _ => False) (n + 1) X T (nI y) (nI y) := by
  intro n
  induction n with
  | zero =>
    intro e y h1 h2 h3 ho X T hX x3 hT
    show w_X3_readInto_L9 post K _ X T (nI y) (nI y)
    refine s3_body h2 h3 hX x3 (fun q1 q2 Y hY => hk ((rz_end ⟨q1, q2⟩).symm.trans ho).symm e y h2 h3 q1 q2 Y T hY hT) (fun q0 s Y q1 hY => hf s Y T ((rz_some q0 q1).symm.trans ho).symm hY) (fun q1 => ?_)
    have := ie_gt h2 q1
    omega
  | succ n ih =>
    intro e y h1 h2 h3 ho X T hX x3 hT
    show w_X3_readInto_L9 post K _ X T (nI y) (nI y)
    refine s3_body h2 h3 hX x3 (fun q1 q2 Y hY => hk ((rz_end ⟨q1, q2⟩).symm.trans ho).symm e y h2 h3 q1 q2 Y T hY hT) (fun q0 s Y q1 hY => hf s Y T ((rz_some q0 q1).symm.trans ho).symm hY) (fun q1 Y hY y3 y6 => ?_)
    obtain ⟨g1, g2⟩ := ie_gt h2 q1
    refine hR e y T h2 h3 hT q1 Y _ hY y6 (fun T' hT' => ?_)
    exact ih (ie b w e) (y + 1) (by omega) g2 (by omega) ((rz_none (iz_n0 q1) q1).symm.trans ho) Y T' hY y3 hT'
