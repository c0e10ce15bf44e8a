/-! read: the numbers of an item -/
def eN (b : Nat → Nat) (w e : Nat) : Nat → Nat
  | 0 => e
  | n + 1 => ke b w (ts b w (eN b w e n))
def tN (b : Nat → Nat) (w e i : Nat) : Nat := ts b w (eN b w e i)
theorem eN_le {b : Nat → Nat} {w e : Nat} (h : e ≤ w) : ∀ i, e ≤ eN b w e i ∧ eN b w e i ≤ w := by
  intro i
  induction i with
  | zero => exact ⟨Nat.le_refl _, h⟩
  | succ i ih =>
    obtain ⟨t1, t2⟩ := ts_le (b := b) ih.2
    obtain ⟨k1, k2⟩ := ke_le (b := b) t2
    exact ⟨Nat.le_trans ih.1 (Nat.le_trans t1 k1), k2⟩
theorem tN_le {b : Nat → Nat} {w e : Nat} (h : e ≤ w) (i : Nat) : e ≤ tN b w e i ∧ tN b w e i ≤ w := by
  obtain ⟨t1, t2⟩ := ts_le (b := b) (eN_le (b := b) h i).2
  exact ⟨Nat.le_trans (eN_le (b := b) h i).1 t1, t2⟩
def lmt (v i : Nat) : Nat := (([[12], [1, 15, 15, 15, 15], [5, 1, 7, 7, 3]] : List (List Nat)).getD v []).getD i 0
def lml (v : Nat) : Nat := if v = 0 then 1 else 5
theorem T_lim : ∀ v, v < 3 → ∀ i, i < 5 → (lim v).getD i 0 = nI (lmt v i) ∧ lmt v i ≤ 15 := by decide +kernel
theorem T_lml : ∀ v, v < 3 → (lim v).length = lml v ∧ lml v ≤ 5 ∧ limK (nI v) = v := by decide +kernel
def okN (b : Nat → Nat) (w v e i : Nat) : Prop := kk b w (tN b w e i) = 2 ∧ kv b w (tN b w e i) ≤ lmt v i
def fN (b : Nat → Nat) (w v e : Nat) : Nat → Nat → Option Nat
  | 0, _ => none
  | n + 1, i => if kk b w (tN b w e i) = 2 ∧ kv b w (tN b w e i) ≤ lmt v i then fN b w v e n (i + 1) else some (tN b w e i)
theorem fN_ok {b : Nat → Nat} {w v e n i : Nat} (h : okN b w v e i) : fN b w v e (n + 1) i = fN b w v e n (i + 1) := if_pos h
theorem fN_no {b : Nat → Nat} {w v e n i : Nat} (h : ¬ okN b w v e i) : fN b w v e (n + 1) i = some (tN b w e i) := if_neg h
theorem fN_none {b : Nat → Nat} {w v e : Nat} : ∀ n i, fN b w v e n i = none → ∀ j, i ≤ j → j < i + n → okN b w v e j := by
  intro n
  induction n with
  | zero =>
    intro i h j h1 h2
    omega
  | succ n ih =>
    intro i h j h1 h2
    by_cases ho : okN b w v e i
    · rw [fN_ok ho] at h
      by_cases hj : j = i
      · exact hj ▸ ho
      · exact ih (i + 1) h j (by omega) (by omega)
    · rw [fN_no ho] at h
      cases h
theorem kk2 {b : Nat → Nat} {w s : Nat} (h : kk b w s = 2) : s < w ∧ isl b s = false ∧ isd b s = true ∧ ru (isd b) w s ≤ s + 2 := by
  unfold kk at h
  by_cases h1 : w ≤ s
  · rw [if_pos h1] at h
    cases h
  · rw [if_neg h1] at h
    by_cases h2 : b s = 59
    · rw [if_pos h2] at h
      cases h
    · rw [if_neg h2] at h
      cases hl : isl b s
      · rw [hl, if_neg (by decide)] at h
        cases hd : isd b s
        · rw [hd, if_neg (by decide)] at h
          cases h
        · rw [hd, if_pos rfl] at h
          by_cases h3 : ru (isd b) w s ≤ s + 2
          · exact ⟨by omega, rfl, rfl, h3⟩
          · rw [if_neg h3] at h
            cases h
      · rw [hl, if_pos rfl] at h
        split at h <;> cases h
theorem isd_iff {b : Nat → Nat} {s : Nat} (h : isd b s = true) : 48 ≤ b s ∧ b s ≤ 57 := by
  unfold isd at h
  rw [Bool.and_eq_true] at h
  exact ⟨of_decide_eq_true h.1, of_decide_eq_true h.2⟩
theorem kv_le {b : Nat → Nat} {w s : Nat} (h : kk b w s = 2) : kv b w s ≤ 99 := by
  obtain ⟨h1, h2, h3, h4⟩ := kk2 h
  have d1 := isd_iff h3
  unfold kv
  rw [h2, if_neg (by decide)]
  unfold nv
  split
  · omega
  · split
    · omega
    · next g1 g2 =>
      have e1 : ru (isd b) w s = ru (isd b) w (s + 1) := ru_yes h1 h3
      by_cases h5 : s + 1 < w
      · cases h6 : isd b (s + 1)
        · rw [ru_no (fun _ => h6)] at e1
          omega
        · have d2 := isd_iff h6
          omega
      · rw [ru_out (w := w) (e := s + 1) (by omega)] at e1
        omega
theorem kk_le (b : Nat → Nat) (w s : Nat) : kk b w s ≤ 4 := by
  unfold kk
  repeat' split
  all_goals omega
theorem s3_nums {b : Nat → Nat} {w v e : Nat} (he : e ≤ w) (hv : v < 3) {post : Int32 → ZI → Prop} (hf : ∀ s Y, fN b w v e (lml v) 0 = some s → TX Y b w → Y 2 0 = nI s → post 0 Y) (hk : fN b w v e (lml v) 0 = none → ∀ Y, TX Y b w → Y 3 0 = nI (eN b w e (lml v)) → (∀ j, j < lml v → Y 6 j = nI (kv b w (tN b w e j))) → post 1 Y) : ∀ n i, i + n = lml v → fN b w v e n i = fN b w v e (lml v) 0 → ∀ X : ZI, TX X b w → X 3 0 = nI (eN b w e i) → (∀ j, j < i → X 6 j = nI (kv b w (tN b w e j))) → itF (w_X3_numbersStand_L2 v post (fun (X3 : ZI) (v4 : Int32) => post 1 X3)) (fun _ _ => False) (n + 1) X (nI i) := by
  obtain ⟨l1, l2, -⟩ := T_lml v hv
  intro n
  induction n with
  | zero =>
    intro i hi hn X hX x3 x6
    show w_X3_numbersStand_L2 v post _ _ X (nI i)
    unfold w_X3_numbersStand_L2
    rw [l1]
    have e1 : i = lml v := hi
    subst e1
    exact bT (nI_le (Nat.le_refl _) (by omega)) (hk hn.symm X hX x3 x6)
  | succ n ih =>
    intro i hi hn X hX x3 x6
    show w_X3_numbersStand_L2 v post _ (itF _ _ (n + 1)) X (nI i)
    have ih := ih (i + 1) (by omega)
    generalize itF (w_X3_numbersStand_L2 v post (fun (X3 : ZI) (v4 : Int32) => post 1 X3)) (fun _ _ => False) (n + 1) = rec at ih ⊢
    unfold w_X3_numbersStand_L2
    rw [l1]
    have hw := hX.1
    refine bF (nI_ge (by omega) (by omega)) (bF (nI_ge (a := i) (b := 5) (by omega) (by omega)) (s3_next hX x3 (eN_le he i).2 (fun Y y0 y1 y6 y2 y3 y4 y5 => ?_)))
    have hY : TX Y b w := hX.re y0 y1
    obtain ⟨t1, t2⟩ := T_lim v hv i (by omega)
    have y2 : Y 2 0 = nI (tN b w e i) := y2
    have y4 : Y 4 0 = nI (kk b w (tN b w e i)) := y4
    have y5 : kk b w (tN b w e i) = 1 ∨ kk b w (tN b w e i) = 2 → Y 5 0 = nI (kv b w (tN b w e i)) := y5
    have y3 : Y 3 0 = nI (eN b w e (i + 1)) := y3
    rw [y4]
    by_cases g : kk b w (tN b w e i) = 2
    · have k9 := kv_le g
      have y5 := y5 (Or.inr g)
      rw [g, y5, ncl (by omega), t1, nI_1]
      refine nT rfl ⟨in_ (by omega) (by omega), fun q => ?_, fun q => ?_⟩
      · have q := (le_iff (by omega) (by omega)).mp q
        refine ⟨in_ (by omega) (by decide), ?_⟩
        rintro X2 rfl
        have ho : okN b w v e i := ⟨g, q⟩
        rw [fN_ok ho] at hn
        refine ih hn (mu Y 6 i (nI (kv b w (tN b w e i)))) (hY.re rfl rfl) y3 (fun j hj => ?_)
        by_cases hji : j = i
        · subst hji
          exact up_eq rfl
        · refine (up_ne hji).trans ?_
          rw [y6]
          exact x6 j (by omega)
      · have q : ¬ kv b w (tN b w e i) ≤ lmt v i := fun q9 => q (nI_le q9 (by omega))
        have ho : ¬ okN b w v e i := fun o => q o.2
        rw [fN_no ho] at hn
        exact hf _ Y hn.symm hY y2
    · have ho : ¬ okN b w v e i := fun o => g o.1
      rw [fN_no ho] at hn
      refine nF (fun q => g ?_) (hf _ Y hn.symm hY y2)
      exact nI_ij (b := 2) (Nat.lt_of_le_of_lt (kk_le b w _) (by decide)) (by decide) q
